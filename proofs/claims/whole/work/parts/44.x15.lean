section X15
variable {C : Cst} {T : Nat → Pst → Nat → Lcs → List Value → Mem → Prop}
def stm1 (ch f1 f2 f3 f4 kd : Int32) (s : NK) : Option NK :=
  if ch = 114 then if s.1 < 8 then some (s.1 + 1, addK s.2 s.1 kd f2) else none
  else if ch = 99 then if okR s.1 f1 then some (s.1, flipK s.2 2 (ix f1)) else none
  else if ch = 100 then if okR s.1 f1 then some (s.1, flipK s.2 1 (ix f1)) else none
  else if ch = 109 then if okM f1 ∧ okP s.1 f2 ∧ ¬ 6 < f3 then some (s.1, up (up s.2 3 (ix f1) f2) 4 (ix f1) f3) else none
  else if ch = 116 then if okM f1 then some (s.1, up s.2 5 (ix f1) (100 * f2 + 10 * f3 + f4)) else none
  else if ch = 118 then if okM f1 ∧ okR s.1 f2 then if 999 < laterK (visitK s.2 (ix f1) (ix f2)).2 then none else some (s.1, (visitK s.2 (ix f1) (ix f2)).2) else none
  else if ch = 98 then if okR s.1 f1 then if 999 < laterK (bothK s.2 (ix f1)).2 then none else some (s.1, (bothK s.2 (ix f1)).2) else none
  else none
set_option maxRecDepth 100000 in
theorem stmK_1 (lt : Nat → Int32) (l p : Nat) (s : NK) : stmK lt l p s = stm1 (ltA lt l p) (ltA lt l (p + 1) - 48) (ltA lt l (p + 2) - 48) (ltA lt l (p + 3) - 48) (ltA lt l (p + 4) - 48) (ofL (ltA lt l (p + 1))) s := rfl
set_option maxRecDepth 100000 in
theorem X3_comes_at (H : Rules C T) {n : Nat} {S K : Mem} (R : RepC 7 S K) (hn : K 0 0 = nI n) (hn8 : n ≤ 8) {lt : Nat → Int32} {l : Nat} (X : XU S lt l) {p : Nat} (hp : p < 200) {ch f1 f2 f3 f4 : Int32} {Q : Pst} (h0 : stm1 ch f1 f2 f3 f4 (ofL (ltA lt l (p + 1))) (n, K) = none → ∀ S', Fr 7 12 S S' → Q (some (.int 0)) S') (h1 : ∀ s', stm1 ch f1 f2 f3 f4 (ofL (ltA lt l (p + 1))) (n, K) = some s' → ∀ S', RepC 7 S' s'.2 → Fr 7 12 S S' → Q (some (.int 1)) S') : T mX3_comes Q 52 [some (.ref 19), some (.int (nI p)), some (.ref 7), some (.int f1), some (.int f2), some (.int f3), some (.int f4)] [.int ch] S := by
  have k1 : nI p + 1 = nI (p + 1) := nI_add p 1
  unfold stm1 at h0 h1
  dsimp only at h0 h1
  skip
  (refine Rules.st H okX3_comes [] ?_; conv => whnf)
  refine br_c (fun e => ?_) (fun e98 => ?_)
  · subst e
    simp (decide := true) only [reduceIte] at h0 h1
    repeat' (first | (refine Rules.st H okX3_comes [] ?_; conv => whnf) | refine br_t (by first | decide | assumption) ?_ | refine br_f (by first | decide | assumption) ?_ | refine br_c (fun _ => ?_) (fun _ => ?_) | refine ⟨by decide, ?_⟩ | refine ⟨by first | assumption | (unfold vp_in; decide) | ((with_reducible (refine vp_in_nI ?_ ?_)) <;> omega), ?_⟩ | fail)
    refine X1_hasRoom H (Or.inr (Or.inl rfl)) R hn hn8 (fun i hi e => ?_) (fun hno => ?_)
    · subst e
      rw [if_pos (okR_nI hn8 hi), show ix (nI i) = i from nIc (by omega)] at h0 h1
      repeat' (first | (refine Rules.st H okX3_comes [] ?_; conv => whnf) | refine br_t (by first | decide | assumption) ?_ | refine br_f (by first | decide | assumption) ?_ | refine br_c (fun _ => ?_) (fun _ => ?_) | refine ⟨by decide, ?_⟩ | refine ⟨by first | assumption | (unfold vp_in; decide) | ((with_reducible (refine vp_in_nI ?_ ?_)) <;> omega), ?_⟩ | fail)
      refine X1_visitByBoth H (Or.inr (Or.inl rfl)) R (by omega) (fun S1 R1 F1 => ?_)
      repeat' (first | (refine Rules.st H okX3_comes [] ?_; conv => whnf) | refine br_t (by first | decide | assumption) ?_ | refine br_f (by first | decide | assumption) ?_ | refine br_c (fun _ => ?_) (fun _ => ?_) | refine ⟨by decide, ?_⟩ | refine ⟨by first | assumption | (unfold vp_in; decide) | ((with_reducible (refine vp_in_nI ?_ ?_)) <;> omega), ?_⟩ | fail)
      refine X1_laterClock H (Or.inr (Or.inl rfl)) R1 ?_
      repeat' (first | (refine Rules.st H okX3_comes [] ?_; conv => whnf) | refine br_t (by first | decide | assumption) ?_ | refine br_f (by first | decide | assumption) ?_ | refine br_c (fun _ => ?_) (fun _ => ?_) | refine ⟨by decide, ?_⟩ | refine ⟨by first | assumption | (unfold vp_in; decide) | ((with_reducible (refine vp_in_nI ?_ ?_)) <;> omega), ?_⟩ | fail)
      · rw [if_pos (by assumption)] at h0
        exact h0 rfl S1 F1
      · rw [if_neg (by assumption)] at h1
        exact h1 _ rfl S1 R1 F1
    · repeat' (first | (refine Rules.st H okX3_comes [] ?_; conv => whnf) | refine br_t (by first | decide | assumption) ?_ | refine br_f (by first | decide | assumption) ?_ | refine br_c (fun _ => ?_) (fun _ => ?_) | refine ⟨by decide, ?_⟩ | refine ⟨by first | assumption | (unfold vp_in; decide) | ((with_reducible (refine vp_in_nI ?_ ?_)) <;> omega), ?_⟩ | fail)
      exact h0 (if_neg (okR_neg hn8 hno)) S Fr.rf
  conv => whnf
  refine br_c (fun e => ?_) (fun e99 => ?_)
  · subst e
    simp (decide := true) only [reduceIte] at h0 h1
    repeat' (first | (refine Rules.st H okX3_comes [] ?_; conv => whnf) | refine br_t (by first | decide | assumption) ?_ | refine br_f (by first | decide | assumption) ?_ | refine br_c (fun _ => ?_) (fun _ => ?_) | refine ⟨by decide, ?_⟩ | refine ⟨by first | assumption | (unfold vp_in; decide) | ((with_reducible (refine vp_in_nI ?_ ?_)) <;> omega), ?_⟩ | fail)
    refine X1_hasRoom H (Or.inr (Or.inl rfl)) R hn hn8 (fun i hi e => ?_) (fun hno => ?_)
    · subst e
      rw [if_pos (okR_nI hn8 hi), show ix (nI i) = i from nIc (by omega)] at h0 h1
      repeat' (first | (refine Rules.st H okX3_comes [] ?_; conv => whnf) | refine br_t (by first | decide | assumption) ?_ | refine br_f (by first | decide | assumption) ?_ | refine br_c (fun _ => ?_) (fun _ => ?_) | refine ⟨by decide, ?_⟩ | refine ⟨by first | assumption | (unfold vp_in; decide) | ((with_reducible (refine vp_in_nI ?_ ?_)) <;> omega), ?_⟩ | fail)
      refine X1_changeCard H (Or.inr (Or.inl rfl)) R (fun S1 R1 F1 => ?_)
      repeat' (first | (refine Rules.st H okX3_comes [] ?_; conv => whnf) | refine br_t (by first | decide | assumption) ?_ | refine br_f (by first | decide | assumption) ?_ | refine br_c (fun _ => ?_) (fun _ => ?_) | refine ⟨by decide, ?_⟩ | refine ⟨by first | assumption | (unfold vp_in; decide) | ((with_reducible (refine vp_in_nI ?_ ?_)) <;> omega), ?_⟩ | fail)
      exact h1 _ rfl S1 R1 F1
    · repeat' (first | (refine Rules.st H okX3_comes [] ?_; conv => whnf) | refine br_t (by first | decide | assumption) ?_ | refine br_f (by first | decide | assumption) ?_ | refine br_c (fun _ => ?_) (fun _ => ?_) | refine ⟨by decide, ?_⟩ | refine ⟨by first | assumption | (unfold vp_in; decide) | ((with_reducible (refine vp_in_nI ?_ ?_)) <;> omega), ?_⟩ | fail)
      exact h0 (if_neg (okR_neg hn8 hno)) S Fr.rf
  conv => whnf
  refine br_c (fun e => ?_) (fun e100 => ?_)
  · subst e
    simp (decide := true) only [reduceIte] at h0 h1
    repeat' (first | (refine Rules.st H okX3_comes [] ?_; conv => whnf) | refine br_t (by first | decide | assumption) ?_ | refine br_f (by first | decide | assumption) ?_ | refine br_c (fun _ => ?_) (fun _ => ?_) | refine ⟨by decide, ?_⟩ | refine ⟨by first | assumption | (unfold vp_in; decide) | ((with_reducible (refine vp_in_nI ?_ ?_)) <;> omega), ?_⟩ | fail)
    refine X1_hasRoom H (Or.inr (Or.inl rfl)) R hn hn8 (fun i hi e => ?_) (fun hno => ?_)
    · subst e
      rw [if_pos (okR_nI hn8 hi), show ix (nI i) = i from nIc (by omega)] at h0 h1
      repeat' (first | (refine Rules.st H okX3_comes [] ?_; conv => whnf) | refine br_t (by first | decide | assumption) ?_ | refine br_f (by first | decide | assumption) ?_ | refine br_c (fun _ => ?_) (fun _ => ?_) | refine ⟨by decide, ?_⟩ | refine ⟨by first | assumption | (unfold vp_in; decide) | ((with_reducible (refine vp_in_nI ?_ ?_)) <;> omega), ?_⟩ | fail)
      refine X1_changeDone H (Or.inr (Or.inl rfl)) R (fun S1 R1 F1 => ?_)
      repeat' (first | (refine Rules.st H okX3_comes [] ?_; conv => whnf) | refine br_t (by first | decide | assumption) ?_ | refine br_f (by first | decide | assumption) ?_ | refine br_c (fun _ => ?_) (fun _ => ?_) | refine ⟨by decide, ?_⟩ | refine ⟨by first | assumption | (unfold vp_in; decide) | ((with_reducible (refine vp_in_nI ?_ ?_)) <;> omega), ?_⟩ | fail)
      exact h1 _ rfl S1 R1 F1
    · repeat' (first | (refine Rules.st H okX3_comes [] ?_; conv => whnf) | refine br_t (by first | decide | assumption) ?_ | refine br_f (by first | decide | assumption) ?_ | refine br_c (fun _ => ?_) (fun _ => ?_) | refine ⟨by decide, ?_⟩ | refine ⟨by first | assumption | (unfold vp_in; decide) | ((with_reducible (refine vp_in_nI ?_ ?_)) <;> omega), ?_⟩ | fail)
      exact h0 (if_neg (okR_neg hn8 hno)) S Fr.rf
  conv => whnf
  refine br_c (fun e => ?_) (fun e101 => ?_)
  · subst e
    repeat' (first | (refine Rules.st H okX3_comes [] ?_; conv => whnf) | refine br_t (by first | decide | assumption) ?_ | refine br_f (by first | decide | assumption) ?_ | refine br_c (fun _ => ?_) (fun _ => ?_) | refine ⟨by decide, ?_⟩ | refine ⟨by first | assumption | (unfold vp_in; decide) | ((with_reducible (refine vp_in_nI ?_ ?_)) <;> omega), ?_⟩ | fail)
    exact h0 (by simp (decide := true) only [reduceIte]) S Fr.rf
  conv => whnf
  refine br_c (fun e => ?_) (fun e102 => ?_)
  · subst e
    repeat' (first | (refine Rules.st H okX3_comes [] ?_; conv => whnf) | refine br_t (by first | decide | assumption) ?_ | refine br_f (by first | decide | assumption) ?_ | refine br_c (fun _ => ?_) (fun _ => ?_) | refine ⟨by decide, ?_⟩ | refine ⟨by first | assumption | (unfold vp_in; decide) | ((with_reducible (refine vp_in_nI ?_ ?_)) <;> omega), ?_⟩ | fail)
    exact h0 (by simp (decide := true) only [reduceIte]) S Fr.rf
  conv => whnf
  refine br_c (fun e => ?_) (fun e103 => ?_)
  · subst e
    repeat' (first | (refine Rules.st H okX3_comes [] ?_; conv => whnf) | refine br_t (by first | decide | assumption) ?_ | refine br_f (by first | decide | assumption) ?_ | refine br_c (fun _ => ?_) (fun _ => ?_) | refine ⟨by decide, ?_⟩ | refine ⟨by first | assumption | (unfold vp_in; decide) | ((with_reducible (refine vp_in_nI ?_ ?_)) <;> omega), ?_⟩ | fail)
    exact h0 (by simp (decide := true) only [reduceIte]) S Fr.rf
  conv => whnf
  refine br_c (fun e => ?_) (fun e104 => ?_)
  · subst e
    repeat' (first | (refine Rules.st H okX3_comes [] ?_; conv => whnf) | refine br_t (by first | decide | assumption) ?_ | refine br_f (by first | decide | assumption) ?_ | refine br_c (fun _ => ?_) (fun _ => ?_) | refine ⟨by decide, ?_⟩ | refine ⟨by first | assumption | (unfold vp_in; decide) | ((with_reducible (refine vp_in_nI ?_ ?_)) <;> omega), ?_⟩ | fail)
    exact h0 (by simp (decide := true) only [reduceIte]) S Fr.rf
  conv => whnf
  refine br_c (fun e => ?_) (fun e105 => ?_)
  · subst e
    repeat' (first | (refine Rules.st H okX3_comes [] ?_; conv => whnf) | refine br_t (by first | decide | assumption) ?_ | refine br_f (by first | decide | assumption) ?_ | refine br_c (fun _ => ?_) (fun _ => ?_) | refine ⟨by decide, ?_⟩ | refine ⟨by first | assumption | (unfold vp_in; decide) | ((with_reducible (refine vp_in_nI ?_ ?_)) <;> omega), ?_⟩ | fail)
    exact h0 (by simp (decide := true) only [reduceIte]) S Fr.rf
  conv => whnf
  refine br_c (fun e => ?_) (fun e106 => ?_)
  · subst e
    repeat' (first | (refine Rules.st H okX3_comes [] ?_; conv => whnf) | refine br_t (by first | decide | assumption) ?_ | refine br_f (by first | decide | assumption) ?_ | refine br_c (fun _ => ?_) (fun _ => ?_) | refine ⟨by decide, ?_⟩ | refine ⟨by first | assumption | (unfold vp_in; decide) | ((with_reducible (refine vp_in_nI ?_ ?_)) <;> omega), ?_⟩ | fail)
    exact h0 (by simp (decide := true) only [reduceIte]) S Fr.rf
  conv => whnf
  refine br_c (fun e => ?_) (fun e107 => ?_)
  · subst e
    repeat' (first | (refine Rules.st H okX3_comes [] ?_; conv => whnf) | refine br_t (by first | decide | assumption) ?_ | refine br_f (by first | decide | assumption) ?_ | refine br_c (fun _ => ?_) (fun _ => ?_) | refine ⟨by decide, ?_⟩ | refine ⟨by first | assumption | (unfold vp_in; decide) | ((with_reducible (refine vp_in_nI ?_ ?_)) <;> omega), ?_⟩ | fail)
    exact h0 (by simp (decide := true) only [reduceIte]) S Fr.rf
  conv => whnf
  refine br_c (fun e => ?_) (fun e108 => ?_)
  · subst e
    repeat' (first | (refine Rules.st H okX3_comes [] ?_; conv => whnf) | refine br_t (by first | decide | assumption) ?_ | refine br_f (by first | decide | assumption) ?_ | refine br_c (fun _ => ?_) (fun _ => ?_) | refine ⟨by decide, ?_⟩ | refine ⟨by first | assumption | (unfold vp_in; decide) | ((with_reducible (refine vp_in_nI ?_ ?_)) <;> omega), ?_⟩ | fail)
    exact h0 (by simp (decide := true) only [reduceIte]) S Fr.rf
  conv => whnf
  refine br_c (fun e => ?_) (fun e109 => ?_)
  · subst e
    simp (decide := true) only [reduceIte] at h0 h1
    repeat' (first | (refine Rules.st H okX3_comes [] ?_; conv => whnf) | refine br_t (by first | decide | assumption) ?_ | refine br_f (by first | decide | assumption) ?_ | refine br_c (fun _ => ?_) (fun _ => ?_) | refine ⟨by decide, ?_⟩ | refine ⟨by first | assumption | (unfold vp_in; decide) | ((with_reducible (refine vp_in_nI ?_ ?_)) <;> omega), ?_⟩ | fail)
    refine X3_maidComes H R hn hn8 (fun g => ?_) (fun g S1 R1 F1 => ?_)
    · repeat' (first | (refine Rules.st H okX3_comes [] ?_; conv => whnf) | refine br_t (by first | decide | assumption) ?_ | refine br_f (by first | decide | assumption) ?_ | refine br_c (fun _ => ?_) (fun _ => ?_) | refine ⟨by decide, ?_⟩ | refine ⟨by first | assumption | (unfold vp_in; decide) | ((with_reducible (refine vp_in_nI ?_ ?_)) <;> omega), ?_⟩ | fail)
      exact h0 (if_neg g) S Fr.rf
    · rw [if_pos g] at h1
      repeat' (first | (refine Rules.st H okX3_comes [] ?_; conv => whnf) | refine br_t (by first | decide | assumption) ?_ | refine br_f (by first | decide | assumption) ?_ | refine br_c (fun _ => ?_) (fun _ => ?_) | refine ⟨by decide, ?_⟩ | refine ⟨by first | assumption | (unfold vp_in; decide) | ((with_reducible (refine vp_in_nI ?_ ?_)) <;> omega), ?_⟩ | fail)
      exact h1 _ rfl S1 R1 F1
  conv => whnf
  refine br_c (fun e => ?_) (fun e110 => ?_)
  · subst e
    repeat' (first | (refine Rules.st H okX3_comes [] ?_; conv => whnf) | refine br_t (by first | decide | assumption) ?_ | refine br_f (by first | decide | assumption) ?_ | refine br_c (fun _ => ?_) (fun _ => ?_) | refine ⟨by decide, ?_⟩ | refine ⟨by first | assumption | (unfold vp_in; decide) | ((with_reducible (refine vp_in_nI ?_ ?_)) <;> omega), ?_⟩ | fail)
    exact h0 (by simp (decide := true) only [reduceIte]) S Fr.rf
  conv => whnf
  refine br_c (fun e => ?_) (fun e111 => ?_)
  · subst e
    repeat' (first | (refine Rules.st H okX3_comes [] ?_; conv => whnf) | refine br_t (by first | decide | assumption) ?_ | refine br_f (by first | decide | assumption) ?_ | refine br_c (fun _ => ?_) (fun _ => ?_) | refine ⟨by decide, ?_⟩ | refine ⟨by first | assumption | (unfold vp_in; decide) | ((with_reducible (refine vp_in_nI ?_ ?_)) <;> omega), ?_⟩ | fail)
    exact h0 (by simp (decide := true) only [reduceIte]) S Fr.rf
  conv => whnf
  refine br_c (fun e => ?_) (fun e112 => ?_)
  · subst e
    repeat' (first | (refine Rules.st H okX3_comes [] ?_; conv => whnf) | refine br_t (by first | decide | assumption) ?_ | refine br_f (by first | decide | assumption) ?_ | refine br_c (fun _ => ?_) (fun _ => ?_) | refine ⟨by decide, ?_⟩ | refine ⟨by first | assumption | (unfold vp_in; decide) | ((with_reducible (refine vp_in_nI ?_ ?_)) <;> omega), ?_⟩ | fail)
    exact h0 (by simp (decide := true) only [reduceIte]) S Fr.rf
  conv => whnf
  refine br_c (fun e => ?_) (fun e113 => ?_)
  · subst e
    repeat' (first | (refine Rules.st H okX3_comes [] ?_; conv => whnf) | refine br_t (by first | decide | assumption) ?_ | refine br_f (by first | decide | assumption) ?_ | refine br_c (fun _ => ?_) (fun _ => ?_) | refine ⟨by decide, ?_⟩ | refine ⟨by first | assumption | (unfold vp_in; decide) | ((with_reducible (refine vp_in_nI ?_ ?_)) <;> omega), ?_⟩ | fail)
    exact h0 (by simp (decide := true) only [reduceIte]) S Fr.rf
  conv => whnf
  refine br_c (fun e => ?_) (fun e114 => ?_)
  · subst e
    simp (decide := true) only [reduceIte] at h0 h1
    repeat' (first | (refine Rules.st H okX3_comes [] ?_; conv => whnf) | refine br_t (by first | decide | assumption) ?_ | refine br_f (by first | decide | assumption) ?_ | refine br_c (fun _ => ?_) (fun _ => ?_) | refine ⟨by decide, ?_⟩ | refine ⟨by first | assumption | (unfold vp_in; decide) | ((with_reducible (refine vp_in_nI ?_ ?_)) <;> omega), ?_⟩ | fail)
    rw [k1]
    refine X3_letterAt H X (by omega) ?_
    repeat' (first | (refine Rules.st H okX3_comes [] ?_; conv => whnf) | refine br_t (by first | decide | assumption) ?_ | refine br_f (by first | decide | assumption) ?_ | refine br_c (fun _ => ?_) (fun _ => ?_) | refine ⟨by decide, ?_⟩ | refine ⟨by first | assumption | (unfold vp_in; decide) | ((with_reducible (refine vp_in_nI ?_ ?_)) <;> omega), ?_⟩ | fail)
    refine X2_ofLetter H ?_
    repeat' (first | (refine Rules.st H okX3_comes [] ?_; conv => whnf) | refine br_t (by first | decide | assumption) ?_ | refine br_f (by first | decide | assumption) ?_ | refine br_c (fun _ => ?_) (fun _ => ?_) | refine ⟨by decide, ?_⟩ | refine ⟨by first | assumption | (unfold vp_in; decide) | ((with_reducible (refine vp_in_nI ?_ ?_)) <;> omega), ?_⟩ | fail)
    refine X1_addRoom H (Or.inr (Or.inl rfl)) hn8 R hn (fun g => ?_) (fun g S1 R1 F1 => ?_)
    · repeat' (first | (refine Rules.st H okX3_comes [] ?_; conv => whnf) | refine br_t (by first | decide | assumption) ?_ | refine br_f (by first | decide | assumption) ?_ | refine br_c (fun _ => ?_) (fun _ => ?_) | refine ⟨by decide, ?_⟩ | refine ⟨by first | assumption | (unfold vp_in; decide) | ((with_reducible (refine vp_in_nI ?_ ?_)) <;> omega), ?_⟩ | fail)
      exact h0 (if_neg (by omega)) S Fr.rf
    · rw [if_pos g] at h1
      repeat' (first | (refine Rules.st H okX3_comes [] ?_; conv => whnf) | refine br_t (by first | decide | assumption) ?_ | refine br_f (by first | decide | assumption) ?_ | refine br_c (fun _ => ?_) (fun _ => ?_) | refine ⟨by decide, ?_⟩ | refine ⟨by first | assumption | (unfold vp_in; decide) | ((with_reducible (refine vp_in_nI ?_ ?_)) <;> omega), ?_⟩ | fail)
      exact h1 _ rfl S1 R1 F1
  conv => whnf
  refine br_c (fun e => ?_) (fun e115 => ?_)
  · subst e
    repeat' (first | (refine Rules.st H okX3_comes [] ?_; conv => whnf) | refine br_t (by first | decide | assumption) ?_ | refine br_f (by first | decide | assumption) ?_ | refine br_c (fun _ => ?_) (fun _ => ?_) | refine ⟨by decide, ?_⟩ | refine ⟨by first | assumption | (unfold vp_in; decide) | ((with_reducible (refine vp_in_nI ?_ ?_)) <;> omega), ?_⟩ | fail)
    exact h0 (by simp (decide := true) only [reduceIte]) S Fr.rf
  conv => whnf
  refine br_c (fun e => ?_) (fun e116 => ?_)
  · subst e
    simp (decide := true) only [reduceIte] at h0 h1
    repeat' (first | (refine Rules.st H okX3_comes [] ?_; conv => whnf) | refine br_t (by first | decide | assumption) ?_ | refine br_f (by first | decide | assumption) ?_ | refine br_c (fun _ => ?_) (fun _ => ?_) | refine ⟨by decide, ?_⟩ | refine ⟨by first | assumption | (unfold vp_in; decide) | ((with_reducible (refine vp_in_nI ?_ ?_)) <;> omega), ?_⟩ | fail)
    refine X1_hasMaid H (fun i hi e => ?_) (fun hno => ?_)
    · subst e
      rw [if_pos (okM_nI hi), show ix (nI i) = i from nIc (by omega)] at h0 h1
      repeat' (first | (refine Rules.st H okX3_comes [] ?_; conv => whnf) | refine br_t (by first | decide | assumption) ?_ | refine br_f (by first | decide | assumption) ?_ | refine br_c (fun _ => ?_) (fun _ => ?_) | refine ⟨by decide, ?_⟩ | refine ⟨by first | assumption | (unfold vp_in; decide) | ((with_reducible (refine vp_in_nI ?_ ?_)) <;> omega), ?_⟩ | fail)
      refine X1_setClock H (Or.inr (Or.inl rfl)) R hi (fun S1 R1 F1 => ?_)
      repeat' (first | (refine Rules.st H okX3_comes [] ?_; conv => whnf) | refine br_t (by first | decide | assumption) ?_ | refine br_f (by first | decide | assumption) ?_ | refine br_c (fun _ => ?_) (fun _ => ?_) | refine ⟨by decide, ?_⟩ | refine ⟨by first | assumption | (unfold vp_in; decide) | ((with_reducible (refine vp_in_nI ?_ ?_)) <;> omega), ?_⟩ | fail)
      exact h1 _ rfl S1 R1 F1
    · repeat' (first | (refine Rules.st H okX3_comes [] ?_; conv => whnf) | refine br_t (by first | decide | assumption) ?_ | refine br_f (by first | decide | assumption) ?_ | refine br_c (fun _ => ?_) (fun _ => ?_) | refine ⟨by decide, ?_⟩ | refine ⟨by first | assumption | (unfold vp_in; decide) | ((with_reducible (refine vp_in_nI ?_ ?_)) <;> omega), ?_⟩ | fail)
      exact h0 (if_neg (okM_neg hno)) S Fr.rf
  conv => whnf
  refine br_c (fun e => ?_) (fun e117 => ?_)
  · subst e
    repeat' (first | (refine Rules.st H okX3_comes [] ?_; conv => whnf) | refine br_t (by first | decide | assumption) ?_ | refine br_f (by first | decide | assumption) ?_ | refine br_c (fun _ => ?_) (fun _ => ?_) | refine ⟨by decide, ?_⟩ | refine ⟨by first | assumption | (unfold vp_in; decide) | ((with_reducible (refine vp_in_nI ?_ ?_)) <;> omega), ?_⟩ | fail)
    exact h0 (by simp (decide := true) only [reduceIte]) S Fr.rf
  conv => whnf
  refine br_c (fun e => ?_) (fun e118 => ?_)
  · subst e
    simp (decide := true) only [reduceIte] at h0 h1
    repeat' (first | (refine Rules.st H okX3_comes [] ?_; conv => whnf) | refine br_t (by first | decide | assumption) ?_ | refine br_f (by first | decide | assumption) ?_ | refine br_c (fun _ => ?_) (fun _ => ?_) | refine ⟨by decide, ?_⟩ | refine ⟨by first | assumption | (unfold vp_in; decide) | ((with_reducible (refine vp_in_nI ?_ ?_)) <;> omega), ?_⟩ | fail)
    refine X1_hasMaid H (fun i hi e => ?_) (fun hno => ?_)
    · subst e
      repeat' (first | (refine Rules.st H okX3_comes [] ?_; conv => whnf) | refine br_t (by first | decide | assumption) ?_ | refine br_f (by first | decide | assumption) ?_ | refine br_c (fun _ => ?_) (fun _ => ?_) | refine ⟨by decide, ?_⟩ | refine ⟨by first | assumption | (unfold vp_in; decide) | ((with_reducible (refine vp_in_nI ?_ ?_)) <;> omega), ?_⟩ | fail)
      refine X1_hasRoom H (Or.inr (Or.inl rfl)) R hn hn8 (fun j hj e => ?_) (fun hno => ?_)
      · subst e
        rw [if_pos ⟨okM_nI hi, okR_nI hn8 hj⟩, show ix (nI i) = i from nIc (by omega), show ix (nI j) = j from nIc (by omega)] at h0 h1
        repeat' (first | (refine Rules.st H okX3_comes [] ?_; conv => whnf) | refine br_t (by first | decide | assumption) ?_ | refine br_f (by first | decide | assumption) ?_ | refine br_c (fun _ => ?_) (fun _ => ?_) | refine ⟨by decide, ?_⟩ | refine ⟨by first | assumption | (unfold vp_in; decide) | ((with_reducible (refine vp_in_nI ?_ ?_)) <;> omega), ?_⟩ | fail)
        refine X1_visitBy H (Or.inr (Or.inl rfl)) R hi (by omega) (fun S1 R1 F1 => ?_)
        repeat' (first | (refine Rules.st H okX3_comes [] ?_; conv => whnf) | refine br_t (by first | decide | assumption) ?_ | refine br_f (by first | decide | assumption) ?_ | refine br_c (fun _ => ?_) (fun _ => ?_) | refine ⟨by decide, ?_⟩ | refine ⟨by first | assumption | (unfold vp_in; decide) | ((with_reducible (refine vp_in_nI ?_ ?_)) <;> omega), ?_⟩ | fail)
        refine X1_laterClock H (Or.inr (Or.inl rfl)) R1 ?_
        repeat' (first | (refine Rules.st H okX3_comes [] ?_; conv => whnf) | refine br_t (by first | decide | assumption) ?_ | refine br_f (by first | decide | assumption) ?_ | refine br_c (fun _ => ?_) (fun _ => ?_) | refine ⟨by decide, ?_⟩ | refine ⟨by first | assumption | (unfold vp_in; decide) | ((with_reducible (refine vp_in_nI ?_ ?_)) <;> omega), ?_⟩ | fail)
        · rw [if_pos (by assumption)] at h0
          exact h0 rfl S1 F1
        · rw [if_neg (by assumption)] at h1
          exact h1 _ rfl S1 R1 F1
      · repeat' (first | (refine Rules.st H okX3_comes [] ?_; conv => whnf) | refine br_t (by first | decide | assumption) ?_ | refine br_f (by first | decide | assumption) ?_ | refine br_c (fun _ => ?_) (fun _ => ?_) | refine ⟨by decide, ?_⟩ | refine ⟨by first | assumption | (unfold vp_in; decide) | ((with_reducible (refine vp_in_nI ?_ ?_)) <;> omega), ?_⟩ | fail)
        exact h0 (if_neg (fun z => okR_neg hn8 hno z.2)) S Fr.rf
    · repeat' (first | (refine Rules.st H okX3_comes [] ?_; conv => whnf) | refine br_t (by first | decide | assumption) ?_ | refine br_f (by first | decide | assumption) ?_ | refine br_c (fun _ => ?_) (fun _ => ?_) | refine ⟨by decide, ?_⟩ | refine ⟨by first | assumption | (unfold vp_in; decide) | ((with_reducible (refine vp_in_nI ?_ ?_)) <;> omega), ?_⟩ | fail)
      exact h0 (if_neg (fun z => okM_neg hno z.1)) S Fr.rf
  repeat' (first | (refine Rules.st H okX3_comes [] ?_; conv => whnf) | refine br_t (by first | decide | assumption) ?_ | refine br_f (by first | decide | assumption) ?_ | refine br_c (fun _ => ?_) (fun _ => ?_) | refine ⟨by decide, ?_⟩ | refine ⟨by first | assumption | (unfold vp_in; decide) | ((with_reducible (refine vp_in_nI ?_ ?_)) <;> omega), ?_⟩ | fail)
  exact h0 (by simp [*]) S Fr.rf
set_option maxRecDepth 100000 in
theorem X3_comes (H : Rules C T) {n : Nat} {S K : Mem} (R : RepC 7 S K) (hn : K 0 0 = nI n) (hn8 : n ≤ 8) {lt : Nat → Int32} {l : Nat} (X : XU S lt l) {p : Nat} (hp : p < 200) {Q : Pst} (h0 : stmK lt l p (n, K) = none → ∀ S', Fr 7 12 S S' → Q (some (.int 0)) S') (h1 : ∀ s', stmK lt l p (n, K) = some s' → ∀ S', RepC 7 S' s'.2 → Fr 7 12 S S' → Q (some (.int 1)) S') : C mX3_comes [.ref 19, .int (nI p), .ref 7] S Q := by
  have k1 : nI p + 1 = nI (p + 1) := nI_add p 1
  have k2 : nI p + 2 = nI (p + 2) := nI_add p 2
  have k3 : nI p + 3 = nI (p + 3) := nI_add p 3
  have k4 : nI p + 4 = nI (p + 4) := nI_add p 4
  rw [stmK_1] at h0 h1
  refine Rules.go H (by decide) (Nat.le_of_ble_eq_true rfl) ?_
  repeat' (first | (refine Rules.st H okX3_comes [52] ?_; conv => whnf) | refine br_t (by first | decide | assumption) ?_ | refine br_f (by first | decide | assumption) ?_ | refine br_c (fun _ => ?_) (fun _ => ?_) | refine ⟨by decide, ?_⟩ | refine ⟨by first | assumption | (unfold vp_in; decide) | ((with_reducible (refine vp_in_nI ?_ ?_)) <;> omega), ?_⟩ | fail)
  rw [k1]
  refine X3_letterAt H X (by omega) ?_
  repeat' (first | (refine Rules.st H okX3_comes [52] ?_; conv => whnf) | refine br_t (by first | decide | assumption) ?_ | refine br_f (by first | decide | assumption) ?_ | refine br_c (fun _ => ?_) (fun _ => ?_) | refine ⟨by decide, ?_⟩ | refine ⟨by first | assumption | (unfold vp_in; decide) | ((with_reducible (refine vp_in_nI ?_ ?_)) <;> omega), ?_⟩ | fail)
  rw [k2]
  refine X3_letterAt H X (by omega) ?_
  repeat' (first | (refine Rules.st H okX3_comes [52] ?_; conv => whnf) | refine br_t (by first | decide | assumption) ?_ | refine br_f (by first | decide | assumption) ?_ | refine br_c (fun _ => ?_) (fun _ => ?_) | refine ⟨by decide, ?_⟩ | refine ⟨by first | assumption | (unfold vp_in; decide) | ((with_reducible (refine vp_in_nI ?_ ?_)) <;> omega), ?_⟩ | fail)
  rw [k3]
  refine X3_letterAt H X (by omega) ?_
  repeat' (first | (refine Rules.st H okX3_comes [52] ?_; conv => whnf) | refine br_t (by first | decide | assumption) ?_ | refine br_f (by first | decide | assumption) ?_ | refine br_c (fun _ => ?_) (fun _ => ?_) | refine ⟨by decide, ?_⟩ | refine ⟨by first | assumption | (unfold vp_in; decide) | ((with_reducible (refine vp_in_nI ?_ ?_)) <;> omega), ?_⟩ | fail)
  rw [k4]
  refine X3_letterAt H X (by omega) ?_
  repeat' (first | (refine Rules.st H okX3_comes [52] ?_; conv => whnf) | refine br_t (by first | decide | assumption) ?_ | refine br_f (by first | decide | assumption) ?_ | refine br_c (fun _ => ?_) (fun _ => ?_) | refine ⟨by decide, ?_⟩ | refine ⟨by first | assumption | (unfold vp_in; decide) | ((with_reducible (refine vp_in_nI ?_ ?_)) <;> omega), ?_⟩ | fail)
  refine X3_letterAt H X (by omega) ?_
  repeat' (first | (refine Rules.st H okX3_comes [52] ?_; conv => whnf) | refine br_t (by first | decide | assumption) ?_ | refine br_f (by first | decide | assumption) ?_ | refine br_c (fun _ => ?_) (fun _ => ?_) | refine ⟨by decide, ?_⟩ | refine ⟨by first | assumption | (unfold vp_in; decide) | ((with_reducible (refine vp_in_nI ?_ ?_)) <;> omega), ?_⟩ | fail)
  exact Halt.mk (X3_comes_at H R hn hn8 X hp h0 h1)
/-- the statements one behind the other -/
def tellK (lt : Nat → Int32) (l : Nat) : List Nat → NK → Nat ⊕ NK
  | [], s => .inr s
  | p :: r, s => match stmK lt l p s with
    | none => .inl p
    | some s' => tellK lt l r s'
set_option maxRecDepth 100000 in
theorem addK_n (K : Mem) (n : Nat) (k f : Int32) : addK K n k f 0 0 = K 0 0 + 1 := up_at
set_option maxRecDepth 100000 in
theorem XU.fr {S S' : Mem} {lt : Nat → Int32} {l : Nat} (X : XU S lt l) (F : Fr 7 12 S S') : XU S' lt l := ⟨⟨X.1.1, by rw [F 19 1 (by omega)]; exact X.1.2⟩, fun j hj => by rw [F 20 j (by omega)]; exact X.2 j hj⟩
set_option maxRecDepth 100000 in
theorem stm1_n {ch f1 f2 f3 f4 kd : Int32} {s s' : NK} (h : stm1 ch f1 f2 f3 f4 kd s = some s') (hn : s.2 0 0 = nI s.1) (hn8 : s.1 ≤ 8) : s'.2 0 0 = nI s'.1 ∧ s'.1 ≤ 8 := by
  unfold stm1 at h
  split at h
  · split at h
    · next g =>
      cases h
      refine ⟨?_, by show s.1 + 1 ≤ 8; omega⟩
      show addK s.2 s.1 kd f2 0 0 = nI (s.1 + 1)
      rw [← nI_1, ← hn]
      exact addK_n _ _ _ _
    · cases h
  · split at h
    · split at h
      · cases h
        exact ⟨hn, hn8⟩
      · cases h
    · split at h
      · split at h
        · cases h
          exact ⟨hn, hn8⟩
        · cases h
      · split at h
        · split at h
          · cases h
            exact ⟨hn, hn8⟩
          · cases h
        · split at h
          · split at h
            · cases h
              exact ⟨hn, hn8⟩
            · cases h
          · split at h
            · split at h
              · split at h
                · cases h
                · cases h
                  exact ⟨(visitK_n _ _ _).trans hn, hn8⟩
              · cases h
            · split at h
              · split at h
                · split at h
                  · cases h
                  · cases h
                    exact ⟨(bothK_n _ _).trans hn, hn8⟩
                · cases h
              · cases h
set_option maxRecDepth 100000 in
theorem stmK_n {lt : Nat → Int32} {l p : Nat} {s s' : NK} (h : stmK lt l p s = some s') (hn : s.2 0 0 = nI s.1) (hn8 : s.1 ≤ 8) : s'.2 0 0 = nI s'.1 ∧ s'.1 ≤ 8 := stm1_n (by rw [← stmK_1]; exact h) hn hn8
set_option maxRecDepth 100000 in
theorem X3_tellTo_l (H : Rules C T) {lt : Nat → Int32} {l : Nat} {w : Int32} {Q : Pst} {S0 : Mem} : ∀ (f i p : Nat) (q : List Nat) (s : NK) (S : Mem), scn lt l f p = .inr q → i + f = l → p ≤ l → i ≤ p → XU S lt l → RepC 7 S s.2 → s.2 0 0 = nI s.1 → s.1 ≤ 8 → Fr 7 12 S0 S → (∀ p', tellK lt l q s = .inl p' → ∀ S', Fr 7 12 S0 S' → Q (some (.int (-2000 - nI p'))) S') → (∀ s', tellK lt l q s = .inr s' → ∀ S', RepC 7 S' s'.2 → Fr 7 12 S0 S' → Q (some (.int (nI (i + q.length)))) S') → T mX3_tellTo Q 20 [some (.ref 19), some (.ref 7), some (.int w), some (.int (nI p)), some (.int (nI i))] [] S := by
  intro f
  induction f with
  | zero =>
    intro i p q s S hs hi hp hip X R hn hn8 F h0 h1
    have e := X.1.2
    have hl := X.1.1
    have hge : S 19 1 ≤ nI i := by rw [e]; exact nI_le (by omega) (by omega)
    cases hs
    skip
    repeat' (first | (refine Rules.st H okX3_tellTo [20] ?_; conv => whnf) | refine br_t (by first | decide | assumption) ?_ | refine br_f (by first | decide | assumption) ?_ | refine br_c (fun _ => ?_) (fun _ => ?_) | refine ⟨by decide, ?_⟩ | refine ⟨by first | assumption | (unfold vp_in; decide) | ((with_reducible (refine vp_in_nI ?_ ?_)) <;> omega), ?_⟩ | fail)
    exact h1 s rfl S R F
  | succ f ih =>
    intro i p q s S hs hi hp hip X R hn hn8 F h0 h1
    have e := X.1.2
    have hl := X.1.1
    have hge : ¬ S 19 1 ≤ nI i := by rw [e]; exact nI_ge (by omega) (by omega)
    unfold scn at hs
    by_cases hpl : p < l
    · rw [if_pos hpl] at hs
      have c1 : ¬ S 19 1 ≤ nI p := by rw [e]; exact nI_ge hpl (by omega)
      cases hw : wis lt l p with
      | some w' => rw [hw] at hs; cases hs
      | none =>
        rw [hw] at hs
        have hb := wis_none hw
        cases hr : scn lt l f (p + sgN (ltA lt l p) + 2) with
        | inl w' => rw [hr] at hs; cases hs
        | inr q' =>
          rw [hr] at hs
          cases hs
          skip
          repeat' (first | (refine Rules.st H okX3_tellTo [20] ?_; conv => whnf) | refine br_t (by first | decide | assumption) ?_ | refine br_f (by first | decide | assumption) ?_ | refine br_c (fun _ => ?_) (fun _ => ?_) | refine ⟨by decide, ?_⟩ | refine ⟨by first | assumption | (unfold vp_in; decide) | ((with_reducible (refine vp_in_nI ?_ ?_)) <;> omega), ?_⟩ | fail)
          refine X3_comes H R hn hn8 X (by omega) (fun g S1 F1 => ?_) (fun s' g S1 R1 F1 => ?_)
          · have g : stmK lt l p s = none := g
            have h0 := h0 p (by unfold tellK; rw [g])
            repeat' (first | (refine Rules.st H okX3_tellTo [20] ?_; conv => whnf) | refine br_t (by first | decide | assumption) ?_ | refine br_f (by first | decide | assumption) ?_ | refine br_c (fun _ => ?_) (fun _ => ?_) | refine ⟨by decide, ?_⟩ | refine ⟨by first | assumption | (unfold vp_in; decide) | ((with_reducible (refine vp_in_nI ?_ ?_)) <;> omega), ?_⟩ | fail)
            exact h0 S1 (F.tr F1)
          · have g : stmK lt l p s = some s' := g
            have eq : tellK lt l (p :: q') s = tellK lt l q' s' := by
              rw [show tellK lt l (p :: q') s = (match stmK lt l p s with | none => .inl p | some s' => tellK lt l q' s') from rfl, g]
            rw [eq] at h0 h1
            have X1 := X.fr F1
            obtain ⟨hn', hn8'⟩ := stmK_n g hn hn8
            repeat' (first | (refine Rules.st H okX3_tellTo [20] ?_; conv => whnf) | refine br_t (by first | decide | assumption) ?_ | refine br_f (by first | decide | assumption) ?_ | refine br_c (fun _ => ?_) (fun _ => ?_) | refine ⟨by decide, ?_⟩ | refine ⟨by first | assumption | (unfold vp_in; decide) | ((with_reducible (refine vp_in_nI ?_ ?_)) <;> omega), ?_⟩ | fail)
            refine X3_behindStatement H X1 (by omega) ?_
            repeat' (first | (refine Rules.st H okX3_tellTo [20] ?_; conv => whnf) | refine br_t (by first | decide | assumption) ?_ | refine br_f (by first | decide | assumption) ?_ | refine br_c (fun _ => ?_) (fun _ => ?_) | refine ⟨by decide, ?_⟩ | refine ⟨by first | assumption | (unfold vp_in; decide) | ((with_reducible (refine vp_in_nI ?_ ?_)) <;> omega), ?_⟩ | fail)
            refine Halt.mk ?_
            show T mX3_tellTo Q 20 [some (.ref 19), some (.ref 7), some (.int w), some (.int (nI (p + sgN (ltA lt l p) + 2))), some (.int (nI i + 1))] [] S1
            rw [nI_1]
            exact ih (i + 1) _ q' s' S1 hr (by omega) hb (by omega) X1 R1 hn' hn8' (F.tr F1) h0 (fun s'' g'' S' R' F' => by
              have := h1 s'' g'' S' R' F'
              rw [show i + (p :: q').length = i + 1 + q'.length by simp; omega] at this
              exact this)
    · have c1 : S 19 1 ≤ nI p := by rw [e]; exact nI_le (by omega) (by omega)
      rw [if_neg hpl] at hs
      cases hs
      skip
      repeat' (first | (refine Rules.st H okX3_tellTo [20] ?_; conv => whnf) | refine br_t (by first | decide | assumption) ?_ | refine br_f (by first | decide | assumption) ?_ | refine br_c (fun _ => ?_) (fun _ => ?_) | refine ⟨by decide, ?_⟩ | refine ⟨by first | assumption | (unfold vp_in; decide) | ((with_reducible (refine vp_in_nI ?_ ?_)) <;> omega), ?_⟩ | fail)
      exact h1 s rfl S R F
def scan (lt : Nat → Int32) (l : Nat) : Nat ⊕ List Nat := if l = 0 then .inl 0 else scn lt l l 0
set_option maxRecDepth 100000 in
theorem scn_w {lt : Nat → Int32} {l : Nat} : ∀ {f p w : Nat}, scn lt l f p = .inl w → w ≤ l + 5
  | 0, p, w, h => by cases h
  | f + 1, p, w, h => by
    unfold scn at h
    split at h
    · next hp =>
      split at h
      · next w' hw => cases h; have := wis_le hw; omega
      · split at h
        · next w' hs => cases h; exact scn_w hs
        · cases h
    · cases h
set_option maxRecDepth 100000 in
theorem X3_tellTo (H : Rules C T) {lt : Nat → Int32} {l n : Nat} {S K : Mem} (X : XU S lt l) (R : RepC 7 S K) (hn : K 0 0 = nI n) (hn8 : n ≤ 8) {Q : Pst} (hw : ∀ w, scan lt l = .inl w → Q (some (.int (-1000 - nI w))) S) (h0 : ∀ q p', scan lt l = .inr q → tellK lt l q (n, K) = .inl p' → ∀ S', Fr 7 12 S S' → Q (some (.int (-2000 - nI p'))) S') (h1 : ∀ q s', scan lt l = .inr q → tellK lt l q (n, K) = .inr s' → ∀ S', RepC 7 S' s'.2 → Fr 7 12 S S' → Q (some (.int (nI q.length))) S') : C mX3_tellTo [.ref 19, .ref 7] S Q := by
  have hl := X.1.1
  refine Rules.go H (by decide) (Nat.le_of_ble_eq_true rfl) ?_
  repeat' (first | (refine Rules.st H okX3_tellTo [20] ?_; conv => whnf) | refine br_t (by first | decide | assumption) ?_ | refine br_f (by first | decide | assumption) ?_ | refine br_c (fun _ => ?_) (fun _ => ?_) | refine ⟨by decide, ?_⟩ | refine ⟨by first | assumption | (unfold vp_in; decide) | ((with_reducible (refine vp_in_nI ?_ ?_)) <;> omega), ?_⟩ | fail)
  refine X3_wrongLetter H X ?_
  rw [show (if l = 0 then (Sum.inl 0 : Nat ⊕ List Nat) else scn lt l l 0) = scan lt l from rfl]
  cases hs : scan lt l with
  | inl w =>
    have hwl : w ≤ l + 5 := by
      unfold scan at hs
      split at hs
      · cases hs; omega
      · exact scn_w hs
    have c0 : ¬ scnI (.inl w) < 0 := nI_pos (by omega)
    repeat' (first | (refine Rules.st H okX3_tellTo [20] ?_; conv => whnf) | refine br_t (by first | decide | assumption) ?_ | refine br_f (by first | decide | assumption) ?_ | refine br_c (fun _ => ?_) (fun _ => ?_) | refine ⟨by decide, ?_⟩ | refine ⟨by first | assumption | (unfold vp_in; decide) | ((with_reducible (refine vp_in_nI ?_ ?_)) <;> omega), ?_⟩ | fail)
    exact hw w hs
  | inr q =>
    have c0 : scnI (.inr q) < 0 := show (-1 : Int32) < 0 by decide
    have hs' : scn lt l l 0 = .inr q := by
      unfold scan at hs
      split at hs
      · cases hs
      · exact hs
    repeat' (first | (refine Rules.st H okX3_tellTo [20] ?_; conv => whnf) | refine br_t (by first | decide | assumption) ?_ | refine br_f (by first | decide | assumption) ?_ | refine br_c (fun _ => ?_) (fun _ => ?_) | refine ⟨by decide, ?_⟩ | refine ⟨by first | assumption | (unfold vp_in; decide) | ((with_reducible (refine vp_in_nI ?_ ?_)) <;> omega), ?_⟩ | fail)
    exact Halt.mk (X3_tellTo_l H l 0 0 q (n, K) S hs' (by omega) (by omega) (by omega) X R hn hn8 Fr.rf (fun p' g => h0 q p' hs g) (fun s' g S' R' F' => by rw [Nat.zero_add]; exact h1 q s' hs g S' R' F'))
def exCor (a j : Nat) : Prop := (1 ≤ a ∧ a ≤ 6) ∨ (a = 19 ∧ j = 1)
/-- what a corridor told in letters comes to: the answer, and the rooms with the corridor behind it -/
def F_corr (lt : Nat → Int32) (l : Nat) (s : NK) : Int32 × NK := match scan lt l with
  | .inl w => (-1000 - nI w, s)
  | .inr q => match tellK lt l q s with
    | .inl p => (-2000 - nI p, s)
    | .inr s' => (nI q.length, (s'.1, freshK s'.2))
set_option maxRecDepth 100000 in
theorem scn_mem {lt : Nat → Int32} {l : Nat} : ∀ {f p : Nat} {q : List Nat}, scn lt l f p = .inr q → (∀ x, x ∈ q → x < l) ∧ q.length ≤ f ∧ (0 < f → p < l → 0 < q.length)
  | 0, p, q, h => by
    cases h
    exact ⟨fun x hx => (nomatch hx), Nat.le_refl _, fun h => absurd h (by omega)⟩
  | f + 1, p, q, h => by
    unfold scn at h
    split at h
    · next hp =>
      split at h
      · cases h
      · split at h
        · cases h
        · next q' hs =>
          cases h
          have ⟨a, b, _⟩ := scn_mem hs
          refine ⟨fun x hx => ?_, by simp; omega, fun _ _ => by simp⟩
          cases hx with
          | head => exact hp
          | tail _ hx => exact a x hx
    · next hp =>
      cases h
      exact ⟨fun x hx => (nomatch hx), Nat.zero_le _, fun _ h => absurd h hp⟩
set_option maxRecDepth 100000 in
theorem tellK_mem {lt : Nat → Int32} {l : Nat} : ∀ {q : List Nat} {s : NK} {p : Nat}, tellK lt l q s = .inl p → p ∈ q
  | [], s, p, h => by cases h
  | x :: r, s, p, h => by
    unfold tellK at h
    split at h
    · cases h; exact List.mem_cons_self
    · exact List.mem_cons_of_mem _ (tellK_mem h)
set_option maxRecDepth 100000 in
theorem negW : ∀ w, w < 128 → (-1000 : Int32) - nI w ≤ 0 := by decide
set_option maxRecDepth 100000 in
theorem negP : ∀ w, w < 128 → (-2000 : Int32) - nI w ≤ 0 := by decide
set_option maxRecDepth 100000 in
theorem scr7 : ∀ c, 7 ≤ c → c ≤ 12 → scrX c := fun c h1 h2 => by unfold scrX; omega
set_option maxRecDepth 100000 in
theorem X4_corridor (H : Rules C T) {S K : Mem} {n : Nat} (X : XK S K n) {lt : Nat → Int32} {l : Nat} (U : XU S lt l) {Q : Pst} (h : ∀ S', RepC 1 S' (F_corr lt l (n, K)).2.2 → S' 19 1 = 0 → ScO exCor S S' → Q (some (.int (F_corr lt l (n, K)).1)) S') : C mX4_corridor [.ref 0] S Q := by
  obtain ⟨R, hn, hn8, hz⟩ := X
  have hl := U.1.1
  refine Rules.go H (by decide) (Nat.le_of_ble_eq_true rfl) ?_
  repeat' (first | (refine Rules.st H okX4_corridor [] ?_; conv => whnf) | refine br_t (by first | decide | assumption) ?_ | refine br_f (by first | decide | assumption) ?_ | refine br_c (fun _ => ?_) (fun _ => ?_) | refine ⟨by decide, ?_⟩ | refine ⟨by first | assumption | (unfold vp_in; decide) | ((with_reducible (refine vp_in_nI ?_ ?_)) <;> omega), ?_⟩ | fail)
  refine X4_think H R hz (fun S1 R1 F1 => ?_)
  have U1 := U.fr F1
  repeat' (first | (refine Rules.st H okX4_corridor [] ?_; conv => whnf) | refine br_t (by first | decide | assumption) ?_ | refine br_f (by first | decide | assumption) ?_ | refine br_c (fun _ => ?_) (fun _ => ?_) | refine ⟨by decide, ?_⟩ | refine ⟨by first | assumption | (unfold vp_in; decide) | ((with_reducible (refine vp_in_nI ?_ ?_)) <;> omega), ?_⟩ | fail)
  refine X3_tellTo H U1 R1 hn hn8 (fun w hs => ?_) (fun q p hs ht S2 F2 => ?_) (fun q s' hs ht S2 R2 F2 => ?_)
  · have e : F_corr lt l (n, K) = (-1000 - nI w, (n, K)) := by unfold F_corr; rw [hs]
    rw [e] at h
    have hwl : w ≤ l + 5 := by
      unfold scan at hs
      split at hs
      · cases hs; omega
      · exact scn_w hs
    have c0 := negW w (by omega)
    repeat' (first | (refine Rules.st H okX4_corridor [] ?_; conv => whnf) | refine br_t (by first | decide | assumption) ?_ | refine br_f (by first | decide | assumption) ?_ | refine br_c (fun _ => ?_) (fun _ => ?_) | refine ⟨by decide, ?_⟩ | refine ⟨by first | assumption | (unfold vp_in; decide) | ((with_reducible (refine vp_in_nI ?_ ?_)) <;> omega), ?_⟩ | fail)
    refine X3_forget H ?_
    repeat' (first | (refine Rules.st H okX4_corridor [] ?_; conv => whnf) | refine br_t (by first | decide | assumption) ?_ | refine br_f (by first | decide | assumption) ?_ | refine br_c (fun _ => ?_) (fun _ => ?_) | refine ⟨by decide, ?_⟩ | refine ⟨by first | assumption | (unfold vp_in; decide) | ((with_reducible (refine vp_in_nI ?_ ?_)) <;> omega), ?_⟩ | fail)
    refine h _ (fun o j hi => ?_) up_at ((ScO.x (ScX.fr F1 scr7)).tr (ScO.put (Or.inr ⟨rfl, rfl⟩)))
    rw [up_k (by unfold inr at hi; omega), F1 (1 + o) j (by unfold inr at hi; omega)]; exact R o j hi
  · have e : F_corr lt l (n, K) = (-2000 - nI p, (n, K)) := by unfold F_corr; rw [hs]; dsimp only; rw [ht]
    rw [e] at h
    have hs' : scn lt l l 0 = .inr q := by
      unfold scan at hs
      split at hs
      · cases hs
      · exact hs
    have c0 := negP p (by have := (scn_mem hs').1 p (tellK_mem ht); omega)
    have F := F1.tr F2
    repeat' (first | (refine Rules.st H okX4_corridor [] ?_; conv => whnf) | refine br_t (by first | decide | assumption) ?_ | refine br_f (by first | decide | assumption) ?_ | refine br_c (fun _ => ?_) (fun _ => ?_) | refine ⟨by decide, ?_⟩ | refine ⟨by first | assumption | (unfold vp_in; decide) | ((with_reducible (refine vp_in_nI ?_ ?_)) <;> omega), ?_⟩ | fail)
    refine X3_forget H ?_
    repeat' (first | (refine Rules.st H okX4_corridor [] ?_; conv => whnf) | refine br_t (by first | decide | assumption) ?_ | refine br_f (by first | decide | assumption) ?_ | refine br_c (fun _ => ?_) (fun _ => ?_) | refine ⟨by decide, ?_⟩ | refine ⟨by first | assumption | (unfold vp_in; decide) | ((with_reducible (refine vp_in_nI ?_ ?_)) <;> omega), ?_⟩ | fail)
    refine h _ (fun o j hi => ?_) up_at ((ScO.x (ScX.fr F scr7)).tr (ScO.put (Or.inr ⟨rfl, rfl⟩)))
    rw [up_k (by unfold inr at hi; omega), F (1 + o) j (by unfold inr at hi; omega)]; exact R o j hi
  · have e : F_corr lt l (n, K) = (nI q.length, (s'.1, freshK s'.2)) := by unfold F_corr; rw [hs]; dsimp only; rw [ht]
    rw [e] at h
    have ⟨hl0, hs'⟩ : l ≠ 0 ∧ scn lt l l 0 = .inr q := by
      unfold scan at hs
      split at hs
      · cases hs
      · next g => exact ⟨g, hs⟩
    have ⟨_, g2, g3⟩ := scn_mem hs'
    have g3 := g3 (by omega) (by omega)
    have c0 : ¬ nI q.length ≤ 0 := nI_ge (a := 0) g3 (by omega)
    have F := F1.tr F2
    repeat' (first | (refine Rules.st H okX4_corridor [] ?_; conv => whnf) | refine br_t (by first | decide | assumption) ?_ | refine br_f (by first | decide | assumption) ?_ | refine br_c (fun _ => ?_) (fun _ => ?_) | refine ⟨by decide, ?_⟩ | refine ⟨by first | assumption | (unfold vp_in; decide) | ((with_reducible (refine vp_in_nI ?_ ?_)) <;> omega), ?_⟩ | fail)
    refine X1_become H (by unfold pairC; omega) R2 (fun S3 R3 F3 => ?_)
    repeat' (first | (refine Rules.st H okX4_corridor [] ?_; conv => whnf) | refine br_t (by first | decide | assumption) ?_ | refine br_f (by first | decide | assumption) ?_ | refine br_c (fun _ => ?_) (fun _ => ?_) | refine ⟨by decide, ?_⟩ | refine ⟨by first | assumption | (unfold vp_in; decide) | ((with_reducible (refine vp_in_nI ?_ ?_)) <;> omega), ?_⟩ | fail)
    refine X3_forget H ?_
    repeat' (first | (refine Rules.st H okX4_corridor [] ?_; conv => whnf) | refine br_t (by first | decide | assumption) ?_ | refine br_f (by first | decide | assumption) ?_ | refine br_c (fun _ => ?_) (fun _ => ?_) | refine ⟨by decide, ?_⟩ | refine ⟨by first | assumption | (unfold vp_in; decide) | ((with_reducible (refine vp_in_nI ?_ ?_)) <;> omega), ?_⟩ | fail)
    refine h _ (fun o j hi => ?_) up_at ?_
    · rw [up_k (by unfold inr at hi; omega)]; exact R3 o j hi
    · exact ((ScO.x (ScX.fr F scr7)).tr (fun a j h1 h2 => F3 a j (by unfold exCor at h2; omega))).tr (ScO.put (Or.inr ⟨rfl, rfl⟩))
end X15
