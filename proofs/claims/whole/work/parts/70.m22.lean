section M22
variable {C : Cst} {T : Nat → Pst → Nat → Lcs → List Value → Mem → Prop}
set_option maxRecDepth 100000 in
theorem XRM.of {S S' : Mem} {row : Nat → Int32} {q : Nat} (h : XRM S row q) (h25 : S' 25 25 = S 25 25) (h39 : ∀ j, S' 39 j = S 39 j) : XRM S' row q := ⟨h25.trans h.1, h.2.1, fun j hj => (h39 j).trans (h.2.2 j hj)⟩
set_option maxRecDepth 100000 in
theorem XRM.frM {S S' : Mem} {row : Nat → Int32} {q : Nat} (h : XRM S row q) (F : FrM S S') : XRM S' row q := h.of (F 25 25 (by unfold inM; omega)) (fun j => F 39 j (by unfold inM; omega))
set_option maxRecDepth 100000 in
theorem XRM.frP {w : Nat} {S S' : Mem} {row : Nat → Int32} {q : Nat} (h : XRM S row q) (F : FrP w S S') : XRM S' row q := h.of (F 25 25 (by omega) (by omega)) (fun j => F 39 j (by omega) (by omega))
set_option maxRecDepth 100000 in
theorem XRM.sc {S S' : Mem} {row : Nat → Int32} {q : Nat} (h : XRM S row q) (F : ScM 0 S S') : XRM S' row q := h.of (F.at (by unfold scrM; omega)) (fun j => F.at (by unfold scrM; omega))
set_option maxRecDepth 100000 in
theorem XRM.put {S : Mem} {row : Nat → Int32} {q a j : Nat} {v : Int32} (h : XRM S row q) (h1 : scrM a j) : XRM (up S a j v) row q := h.of (by unfold up; rw [if_neg (fun z => by unfold scrM at h1; omega)]) (fun i => up_k (by unfold scrM at h1; omega))
set_option maxRecDepth 100000 in
theorem okR_ix {n : Nat} (hn : n ≤ 8) {x : Int32} (h : okR n x) : ix x < n := by
  obtain ⟨r, hr, rfl⟩ := (okR_iff hn).mp h
  rw [show ix (nI r) = r from nIc (by omega)]
  exact hr
set_option maxRecDepth 100000 in
theorem Gd.row {n m : Nat} {row : Nat → Int32} : ∀ {k i : Nat} {K : Mem}, Gd K n → Gd (rowK n m row k i K) n
  | 0, _, _, g => g
  | k + 1, i, K, g => by
    unfold rowK
    refine Gd.row ?_
    split
    · exact g.visit (okR_ix g.2.1 (by assumption))
    · exact g
set_option maxRecDepth 100000 in
theorem rowK_s (n m : Nat) (row : Nat → Int32) : ∀ (k i : Nat) (K : Mem), rowK n m row k i K 0 3 = K 0 3
  | 0, _, _ => rfl
  | k + 1, i, K => by
    unfold rowK
    rw [rowK_s]
    split
    · exact visitK_s K m _
    · rfl
set_option maxRecDepth 100000 in
theorem X5_roundMinutes_l (H : Rules C T) {n m q : Nat} {d was : Int32} {row : Nat → Int32} (hm : m < 2) {Q : Pst} : ∀ (k i : Nat) (S K : Mem), i + k = q → RepM S K d → Gd K n → XRM S row q → (∀ S', RepM S' (rowK n m row k i K) d → FrM S S' → T mX5_roundMinutes Q 57 [some (.ref 25), some (.int (nI m)), some (.int was), some (.int (nI q))] [] S') → T mX5_roundMinutes Q 18 [some (.ref 25), some (.int (nI m)), some (.int was), some (.int (nI i))] [] S := by
  intro k
  induction k with
  | zero =>
    intro i S K hi R g X h1
    have hq := X.2.1
    have hge : S 25 25 ≤ nI i := by rw [X.1]; exact nI_le (by omega) (by omega)
    have h1 := h1 S R FrM.rf
    rw [show q = i by omega] at h1
    skip
    repeat' (first | (refine Rules.st H okX5_roundMinutes [18, 57] ?_; (conv => whnf); try (show T _ _ _ [_, _, _, _] _ _)) | refine br_t (by first | decide | assumption) ?_ | refine br_f (by first | decide | assumption) ?_ | refine br_c (fun _ => ?_) (fun _ => ?_) | refine ⟨by decide, ?_⟩ | refine ⟨by first | assumption | (unfold vp_in; decide) | ((with_reducible (refine vp_in_nI ?_ ?_)) <;> omega), ?_⟩ | fail)
    exact Halt.mk h1
  | succ k ih =>
    intro i S K hi R g X h1
    have hq := X.2.1
    have h8 := g.2.1
    have hge : ¬ S 25 25 ≤ nI i := by rw [X.1]; exact nI_ge (by omega) (by omega)
    have ci : (nI i).toNatClampNeg = i := nIc (by omega)
    have ex : S 39 (nI i).toNatClampNeg = row i := by rw [ci]; exact X.2.2 i (by omega)
    skip
    repeat' (first | (refine Rules.st H okX5_roundMinutes [18, 57] ?_; (conv => whnf); try (show T _ _ _ [_, _, _, _] _ _)) | refine br_t (by first | decide | assumption) ?_ | refine br_f (by first | decide | assumption) ?_ | refine br_c (fun _ => ?_) (fun _ => ?_) | refine ⟨by decide, ?_⟩ | refine ⟨by first | assumption | (unfold vp_in; decide) | ((with_reducible (refine vp_in_nI ?_ ?_)) <;> omega), ?_⟩ | fail)
    rw [ex]
    unfold rowK at h1
    refine X5_isRoom H (R.rm.trans g.1) h8 (fun j hj e => ?_) (fun hno => ?_)
    · rw [e, if_pos (okR_nI h8 hj), show (nI j).toNatClampNeg = j from nIc (by omega)] at h1
      repeat' (first | (refine Rules.st H okX5_roundMinutes [18, 57] ?_; (conv => whnf); try (show T _ _ _ [_, _, _, _] _ _)) | refine br_t (by first | decide | assumption) ?_ | refine br_f (by first | decide | assumption) ?_ | refine br_c (fun _ => ?_) (fun _ => ?_) | refine ⟨by decide, ?_⟩ | refine ⟨by first | assumption | (unfold vp_in; decide) | ((with_reducible (refine vp_in_nI ?_ ?_)) <;> omega), ?_⟩ | fail)
      rw [ex, e]
      refine X5_visit H R g hm hj (fun S1 R1 F1 => ?_)
      repeat' (first | (refine Rules.st H okX5_roundMinutes [18, 57] ?_; (conv => whnf); try (show T _ _ _ [_, _, _, _] _ _)) | refine br_t (by first | decide | assumption) ?_ | refine br_f (by first | decide | assumption) ?_ | refine br_c (fun _ => ?_) (fun _ => ?_) | refine ⟨by decide, ?_⟩ | refine ⟨by first | assumption | (unfold vp_in; decide) | ((with_reducible (refine vp_in_nI ?_ ?_)) <;> omega), ?_⟩ | fail)
      refine Halt.mk ?_
      rw [nI_1]
      exact ih (i + 1) S1 _ (by omega) R1 (g.visit hj) (X.frM F1) (fun S' R' F' => h1 S' R' (F1.tr F'))
    · rw [if_neg (okR_neg h8 hno)] at h1
      repeat' (first | (refine Rules.st H okX5_roundMinutes [18, 57] ?_; (conv => whnf); try (show T _ _ _ [_, _, _, _] _ _)) | refine br_t (by first | decide | assumption) ?_ | refine br_f (by first | decide | assumption) ?_ | refine br_c (fun _ => ?_) (fun _ => ?_) | refine ⟨by decide, ?_⟩ | refine ⟨by first | assumption | (unfold vp_in; decide) | ((with_reducible (refine vp_in_nI ?_ ?_)) <;> omega), ?_⟩ | fail)
      refine Halt.mk ?_
      rw [nI_1]
      exact ih (i + 1) S _ (by omega) R g X h1
set_option maxRecDepth 100000 in
theorem X5_roundMinutes (H : Rules C T) {S K : Mem} {d : Int32} {n m q : Nat} {row : Nat → Int32} (hm : m < 2) (R : RepM S K d) (g : Gd K n) (h4 : K 0 4 = 0) (X : XRM S row q) {Q : Pst} (h1 : ∀ S', ScM 0 S S' → S' 25 22 = rowK n m row q 0 K 0 4 → S' 25 26 = rowK n m row q 0 K 0 1 → Q (some (.int (rowK n m row q 0 K 5 m - K 5 m))) S') : C mX5_roundMinutes [.ref 25, .int (nI m)] S Q := by
  have cm : (nI m).toNatClampNeg = m := nIc (by omega)
  refine Rules.go H (by decide) (Nat.le_of_ble_eq_true rfl) ?_
  repeat' (first | (refine Rules.st H okX5_roundMinutes [18] ?_; (conv => whnf); try (show T _ _ _ [_, _, _, _] _ _)) | refine br_t (by first | decide | assumption) ?_ | refine br_f (by first | decide | assumption) ?_ | refine br_c (fun _ => ?_) (fun _ => ?_) | refine ⟨by decide, ?_⟩ | refine ⟨by first | assumption | (unfold vp_in; decide) | ((with_reducible (refine vp_in_nI ?_ ?_)) <;> omega), ?_⟩ | fail)
  refine X5_minds H (fun S1 k1 f1 => ?_)
  have R1 := R.frP f1
  repeat' (first | (refine Rules.st H okX5_roundMinutes [18] ?_; (conv => whnf); try (show T _ _ _ [_, _, _, _] _ _)) | refine br_t (by first | decide | assumption) ?_ | refine br_f (by first | decide | assumption) ?_ | refine br_c (fun _ => ?_) (fun _ => ?_) | refine ⟨by decide, ?_⟩ | refine ⟨by first | assumption | (unfold vp_in; decide) | ((with_reducible (refine vp_in_nI ?_ ?_)) <;> omega), ?_⟩ | fail)
  rw [cm, R1.ck hm]
  have R2 := R1.zero h4
  have F2 : ScMY 0 S1 (up S1 25 22 0) := ScMY.put (by unfold scrM; omega)
  have k2 : KeptM 2 (up S1 25 22 0) S := k1.put (by omega)
  have X2 : XRM (up S1 25 22 0) row q := (X.frP f1).put (by unfold scrM; omega)
  generalize up S1 25 22 0 = S2 at R2 F2 k2 X2 ⊢
  refine Halt.mk ?_
  refine X5_roundMinutes_l H hm q 0 S2 K (by omega) R2 g X2 (fun S3 R3 F3 => ?_)
  have e33 : S3 33 (nI m).toNatClampNeg = rowK n m row q 0 K 5 m := by rw [cm]; exact R3.ck hm
  skip
  repeat' (first | (refine Rules.st H okX5_roundMinutes [] ?_; (conv => whnf); try (show T _ _ _ [_, _, _, _] _ _)) | refine br_t (by first | decide | assumption) ?_ | refine br_f (by first | decide | assumption) ?_ | refine br_c (fun _ => ?_) (fun _ => ?_) | refine ⟨by decide, ?_⟩ | refine ⟨by first | assumption | (unfold vp_in; decide) | ((with_reducible (refine vp_in_nI ?_ ?_)) <;> omega), ?_⟩ | fail)
  rw [e33]
  refine X5_setOf H (f := 1) (Or.inl rfl) R3 g.row ?_
  repeat' (first | (refine Rules.st H okX5_roundMinutes [] ?_; (conv => whnf); try (show T _ _ _ [_, _, _, _] _ _)) | refine br_t (by first | decide | assumption) ?_ | refine br_f (by first | decide | assumption) ?_ | refine br_c (fun _ => ?_) (fun _ => ?_) | refine ⟨by decide, ?_⟩ | refine ⟨by first | assumption | (unfold vp_in; decide) | ((with_reducible (refine vp_in_nI ?_ ?_)) <;> omega), ?_⟩ | fail)
  have F4 : ScMY 0 S1 (up S3 25 26 (rowK n m row q 0 K 0 1)) := (F2.tr (ScMY.fr F3)).tr (ScMY.put (by unfold scrM; omega))
  have k4 : KeptM 2 (up S3 25 26 (rowK n m row q 0 K 0 1)) S := (k2.fr F3).put (by omega)
  have R4 := R3.o (a := 25) (j := 26) (v := rowK n m row q 0 K 0 1) (by unfold inM; omega)
  have e26 : up S3 25 26 (rowK n m row q 0 K 0 1) 25 26 = rowK n m row q 0 K 0 1 := up_at
  generalize up S3 25 26 _ = S4 at F4 k4 R4 e26 ⊢
  refine X5_forgets H k4 (fun S5 b1 b2 => ?_)
  have s5 : ScM 0 S S5 := back (by omega) f1 F4 (by rw [R4.st, R.st, rowK_s]) b1 b2
  repeat' (first | (refine Rules.st H okX5_roundMinutes [] ?_; (conv => whnf); try (show T _ _ _ [_, _, _, _] _ _)) | refine br_t (by first | decide | assumption) ?_ | refine br_f (by first | decide | assumption) ?_ | refine br_c (fun _ => ?_) (fun _ => ?_) | refine ⟨by decide, ?_⟩ | refine ⟨by first | assumption | (unfold vp_in; decide) | ((with_reducible (refine vp_in_nI ?_ ?_)) <;> omega), ?_⟩ | fail)
  exact h1 S5 s5 (by rw [b2 25 22 (by unfold inP; omega) (by omega), R4.dn, Int32.zero_add]) (by rw [b2 25 26 (by unfold inP; omega) (by omega), e26])
set_option maxRecDepth 100000 in
theorem X5_round (H : Rules C T) {S K : Mem} {n q : Nat} {row : Nat → Int32} (X : XM S K n) (XQ : XRM S row q) {m w : Int32} {Q : Pst} (h1 : AnsM S (F_round K n row q m w) Q) : C mX5_round [.ref 25, .int m, .int w] S Q := by
  obtain ⟨⟨d, R⟩, g, hz⟩ := X
  have hn8 := g.2.1
  unfold F_round at h1
  refine Rules.go H (by decide) (Nat.le_of_ble_eq_true rfl) ?_
  repeat' (first | (refine Rules.st H okX5_round [] ?_; (conv => whnf); try (show T _ _ _ [_, _, _, _, _] _ _)) | refine br_t (by first | decide | assumption) ?_ | refine br_f (by first | decide | assumption) ?_ | refine br_c (fun _ => ?_) (fun _ => ?_) | refine ⟨by decide, ?_⟩ | refine ⟨by first | assumption | (unfold vp_in; decide) | ((with_reducible (refine vp_in_nI ?_ ?_)) <;> omega), ?_⟩ | fail)
  refine X5_isMaid H (fun i hi e => ?_) (fun hno => ?_)
  · subst e
    rw [if_pos (okM_nI hi), show ix (nI i) = i from nIc (by omega)] at h1
    repeat' (first | (refine Rules.st H okX5_round [] ?_; (conv => whnf); try (show T _ _ _ [_, _, _, _, _] _ _)) | refine br_t (by first | decide | assumption) ?_ | refine br_f (by first | decide | assumption) ?_ | refine br_c (fun _ => ?_) (fun _ => ?_) | refine ⟨by decide, ?_⟩ | refine ⟨by first | assumption | (unfold vp_in; decide) | ((with_reducible (refine vp_in_nI ?_ ?_)) <;> omega), ?_⟩ | fail)
    refine X5_isIn H (fun q1 q2 => ?_) (fun q => ?_)
    · rw [if_neg (w2y q1 q2)] at h1
      repeat' (first | (refine Rules.st H okX5_round [] ?_; (conv => whnf); try (show T _ _ _ [_, _, _, _, _] _ _)) | refine br_t (by first | decide | assumption) ?_ | refine br_f (by first | decide | assumption) ?_ | refine br_c (fun _ => ?_) (fun _ => ?_) | refine ⟨by decide, ?_⟩ | refine ⟨by first | assumption | (unfold vp_in; decide) | ((with_reducible (refine vp_in_nI ?_ ?_)) <;> omega), ?_⟩ | fail)
      refine X5_roundMinutes H hi R g hz.2 XQ (fun S1 s1 e22 e26 => ?_)
      have h1 := h1 S1 s1
      rcases w3 q1 q2 with rfl | rfl | rfl
      · repeat' (first | (refine Rules.st H okX5_round [] ?_; (conv => whnf); try (show T _ _ _ [_, _, _, _, _] _ _)) | refine br_t (by first | decide | assumption) ?_ | refine br_f (by first | decide | assumption) ?_ | refine br_c (fun _ => ?_) (fun _ => ?_) | refine ⟨by decide, ?_⟩ | refine ⟨by first | assumption | (unfold vp_in; decide) | ((with_reducible (refine vp_in_nI ?_ ?_)) <;> omega), ?_⟩ | fail)
        exact h1
      · obtain ⟨d1, R1⟩ := s1.rep R
        repeat' (first | (refine Rules.st H okX5_round [] ?_; (conv => whnf); try (show T _ _ _ [_, _, _, _, _] _ _)) | refine br_t (by first | decide | assumption) ?_ | refine br_f (by first | decide | assumption) ?_ | refine br_c (fun _ => ?_) (fun _ => ?_) | refine ⟨by decide, ?_⟩ | refine ⟨by first | assumption | (unfold vp_in; decide) | ((with_reducible (refine vp_in_nI ?_ ?_)) <;> omega), ?_⟩ | fail)
        rw [e26]
        refine X5_setOf H (f := 1) (Or.inl rfl) R1 g ?_
        repeat' (first | (refine Rules.st H okX5_round [] ?_; (conv => whnf); try (show T _ _ _ [_, _, _, _, _] _ _)) | refine br_t (by first | decide | assumption) ?_ | refine br_f (by first | decide | assumption) ?_ | refine br_c (fun _ => ?_) (fun _ => ?_) | refine ⟨by decide, ?_⟩ | refine ⟨by first | assumption | (unfold vp_in; decide) | ((with_reducible (refine vp_in_nI ?_ ?_)) <;> omega), ?_⟩ | fail)
        exact h1
      · repeat' (first | (refine Rules.st H okX5_round [] ?_; (conv => whnf); try (show T _ _ _ [_, _, _, _, _] _ _)) | refine br_t (by first | decide | assumption) ?_ | refine br_f (by first | decide | assumption) ?_ | refine br_c (fun _ => ?_) (fun _ => ?_) | refine ⟨by decide, ?_⟩ | refine ⟨by first | assumption | (unfold vp_in; decide) | ((with_reducible (refine vp_in_nI ?_ ?_)) <;> omega), ?_⟩ | fail)
        rw [e22]
        exact h1
    · rw [if_pos (w2n q)] at h1
      repeat' (first | (refine Rules.st H okX5_round [] ?_; (conv => whnf); try (show T _ _ _ [_, _, _, _, _] _ _)) | refine br_t (by first | decide | assumption) ?_ | refine br_f (by first | decide | assumption) ?_ | refine br_c (fun _ => ?_) (fun _ => ?_) | refine ⟨by decide, ?_⟩ | refine ⟨by first | assumption | (unfold vp_in; decide) | ((with_reducible (refine vp_in_nI ?_ ?_)) <;> omega), ?_⟩ | fail)
      refine X5_no H ScM.rf (k := 2) (by omega) (by omega) (by decide) (fun S' hS' => ?_)
      repeat' (first | (refine Rules.st H okX5_round [] ?_; (conv => whnf); try (show T _ _ _ [_, _, _, _, _] _ _)) | refine br_t (by first | decide | assumption) ?_ | refine br_f (by first | decide | assumption) ?_ | refine br_c (fun _ => ?_) (fun _ => ?_) | refine ⟨by decide, ?_⟩ | refine ⟨by first | assumption | (unfold vp_in; decide) | ((with_reducible (refine vp_in_nI ?_ ?_)) <;> omega), ?_⟩ | fail)
      exact h1 S' hS'
  · rw [if_neg (okM_neg hno)] at h1
    repeat' (first | (refine Rules.st H okX5_round [] ?_; (conv => whnf); try (show T _ _ _ [_, _, _, _, _] _ _)) | refine br_t (by first | decide | assumption) ?_ | refine br_f (by first | decide | assumption) ?_ | refine br_c (fun _ => ?_) (fun _ => ?_) | refine ⟨by decide, ?_⟩ | refine ⟨by first | assumption | (unfold vp_in; decide) | ((with_reducible (refine vp_in_nI ?_ ?_)) <;> omega), ?_⟩ | fail)
    refine X5_no H ScM.rf (k := 1) (by omega) (by omega) (by decide) (fun S' hS' => ?_)
    repeat' (first | (refine Rules.st H okX5_round [] ?_; (conv => whnf); try (show T _ _ _ [_, _, _, _, _] _ _)) | refine br_t (by first | decide | assumption) ?_ | refine br_f (by first | decide | assumption) ?_ | refine br_c (fun _ => ?_) (fun _ => ?_) | refine ⟨by decide, ?_⟩ | refine ⟨by first | assumption | (unfold vp_in; decide) | ((with_reducible (refine vp_in_nI ?_ ?_)) <;> omega), ?_⟩ | fail)
    exact h1 S' hS'
set_option maxRecDepth 100000 in
theorem X5_judge_l (H : Rules C T) {K : Mem} {n q : Nat} (hn8 : n ≤ 8) (hq : q ≤ 16) {row : Nat → Int32} {S : Mem} (h8 : S 25 8 = nI n) (h26 : S 25 26 = K 0 1) (h39 : ∀ j, j < 16 → S 39 j = row j) {Q : Pst} : ∀ (k i : Nat), i + k = q → Q (some (.int (judK K n row k i))) S → T mX5_judge Q 18 [some (.ref 25), some (.int (nI q)), some (.int (nI i))] [] S := by
  intro k
  induction k with
  | zero =>
    intro i hi h1
    have hge : nI q ≤ nI i := nI_le (by omega) (by omega)
    skip
    repeat' (first | (refine Rules.st H okX5_judge [18] ?_; (conv => whnf); try (show T _ _ _ [_, _, _] _ _)) | refine br_t (by first | decide | assumption) ?_ | refine br_f (by first | decide | assumption) ?_ | refine br_c (fun _ => ?_) (fun _ => ?_) | refine ⟨by decide, ?_⟩ | refine ⟨by first | assumption | (unfold vp_in; decide) | ((with_reducible (refine vp_in_nI ?_ ?_)) <;> omega), ?_⟩ | fail)
    exact h1
  | succ k ih =>
    intro i hi h1
    have hge : ¬ nI q ≤ nI i := nI_ge (by omega) (by omega)
    have ex : S 39 (nI i).toNatClampNeg = row i := by rw [nIc (by omega)]; exact h39 i (by omega)
    unfold judK at h1
    skip
    repeat' (first | (refine Rules.st H okX5_judge [18] ?_; (conv => whnf); try (show T _ _ _ [_, _, _] _ _)) | refine br_t (by first | decide | assumption) ?_ | refine br_f (by first | decide | assumption) ?_ | refine br_c (fun _ => ?_) (fun _ => ?_) | refine ⟨by decide, ?_⟩ | refine ⟨by first | assumption | (unfold vp_in; decide) | ((with_reducible (refine vp_in_nI ?_ ?_)) <;> omega), ?_⟩ | fail)
    rw [ex]
    refine X5_isRoom H h8 hn8 (fun j hj e => ?_) (fun hno => ?_)
    · rw [e, show ix (nI j) = j from nIc (by omega)] at h1
      repeat' (first | (refine Rules.st H okX5_judge [18] ?_; (conv => whnf); try (show T _ _ _ [_, _, _] _ _)) | refine br_t (by first | decide | assumption) ?_ | refine br_f (by first | decide | assumption) ?_ | refine br_c (fun _ => ?_) (fun _ => ?_) | refine ⟨by decide, ?_⟩ | refine ⟨by first | assumption | (unfold vp_in; decide) | ((with_reducible (refine vp_in_nI ?_ ?_)) <;> omega), ?_⟩ | fail)
      rw [ex, e, h26]
      refine X5_has H (fun g => ?_) (fun g => ?_)
      · rw [if_pos ⟨okR_nI hn8 hj, by rw [g]; decide⟩] at h1
        repeat' (first | (refine Rules.st H okX5_judge [18] ?_; (conv => whnf); try (show T _ _ _ [_, _, _] _ _)) | refine br_t (by first | decide | assumption) ?_ | refine br_f (by first | decide | assumption) ?_ | refine br_c (fun _ => ?_) (fun _ => ?_) | refine ⟨by decide, ?_⟩ | refine ⟨by first | assumption | (unfold vp_in; decide) | ((with_reducible (refine vp_in_nI ?_ ?_)) <;> omega), ?_⟩ | fail)
        refine Halt.mk ?_
        rw [nI_1]
        exact ih (i + 1) (by omega) h1
      · rw [if_neg (fun z => g (bt_n0 z.2))] at h1
        repeat' (first | (refine Rules.st H okX5_judge [18] ?_; (conv => whnf); try (show T _ _ _ [_, _, _] _ _)) | refine br_t (by first | decide | assumption) ?_ | refine br_f (by first | decide | assumption) ?_ | refine br_c (fun _ => ?_) (fun _ => ?_) | refine ⟨by decide, ?_⟩ | refine ⟨by first | assumption | (unfold vp_in; decide) | ((with_reducible (refine vp_in_nI ?_ ?_)) <;> omega), ?_⟩ | fail)
        exact h1
    · rw [if_neg (fun z => okR_neg hn8 hno z.1)] at h1
      repeat' (first | (refine Rules.st H okX5_judge [18] ?_; (conv => whnf); try (show T _ _ _ [_, _, _] _ _)) | refine br_t (by first | decide | assumption) ?_ | refine br_f (by first | decide | assumption) ?_ | refine br_c (fun _ => ?_) (fun _ => ?_) | refine ⟨by decide, ?_⟩ | refine ⟨by first | assumption | (unfold vp_in; decide) | ((with_reducible (refine vp_in_nI ?_ ?_)) <;> omega), ?_⟩ | fail)
      exact h1
set_option maxRecDepth 100000 in
theorem X5_judge (H : Rules C T) {S K : Mem} {n q : Nat} {row : Nat → Int32} (X : XM S K n) (XQ : XRM S row q) {Q : Pst} (h1 : ∀ S', ScM 0 S S' → Q (some (.int (judK (rowK n 0 row q 0 K) n row q 0))) (up S' 25 25 0)) : C mX5_judge [.ref 25] S Q := by
  obtain ⟨⟨d, R⟩, g, hz⟩ := X
  have hn8 := g.2.1
  refine Rules.go H (by decide) (Nat.le_of_ble_eq_true rfl) ?_
  repeat' (first | (refine Rules.st H okX5_judge [18] ?_; (conv => whnf); try (show T _ _ _ [_, _, _] _ _)) | refine br_t (by first | decide | assumption) ?_ | refine br_f (by first | decide | assumption) ?_ | refine br_c (fun _ => ?_) (fun _ => ?_) | refine ⟨by decide, ?_⟩ | refine ⟨by first | assumption | (unfold vp_in; decide) | ((with_reducible (refine vp_in_nI ?_ ?_)) <;> omega), ?_⟩ | fail)
  refine X5_roundMinutes H (m := 0) (by omega) R g hz.2 XQ (fun S1 s1 e22 e26 => ?_)
  obtain ⟨d1, R1⟩ := s1.rep R
  have X1 := XQ.sc s1
  have h1 := h1 S1 s1
  repeat' (first | (refine Rules.st H okX5_judge [18] ?_; (conv => whnf); try (show T _ _ _ [_, _, _] _ _)) | refine br_t (by first | decide | assumption) ?_ | refine br_f (by first | decide | assumption) ?_ | refine br_c (fun _ => ?_) (fun _ => ?_) | refine ⟨by decide, ?_⟩ | refine ⟨by first | assumption | (unfold vp_in; decide) | ((with_reducible (refine vp_in_nI ?_ ?_)) <;> omega), ?_⟩ | fail)
  rw [X1.1]
  refine Halt.mk ?_
  exact X5_judge_l H hn8 XQ.2.1 (by rw [up_j (by omega)]; exact R1.rm.trans g.1) (by rw [up_j (by omega)]; exact e26) (fun j hj => by rw [up_k (by omega)]; exact X1.2.2 j hj) q 0 (by omega) h1
end M22
