section M41
variable {C : Cst} {T : Nat → Pst → Nat → Lcs → List Value → Mem → Prop}
/-- the i-th sign behind the letter at p is one that may stand there -/
def okS (lt : Nat → Int32) (l p i : Nat) : Prop := if ltA lt l p = 114 ∧ i = 1 then 0 ≤ ofL (ltA lt l (p + i)) else isDg (ltA lt l (p + i))
set_option maxRecDepth 100000 in
theorem okS_iff {lt : Nat → Int32} {l p i : Nat} : (p + i < l ∧ sgB lt l p i = true) ↔ okS lt l p i := by
  have e : ¬ p + i < l → ltA lt l (p + i) = -1 := fun h => if_neg h
  unfold okS sgB isDg
  by_cases c : ltA lt l p = 114 ∧ i = 1
  · rw [if_pos c, if_pos c]
    constructor
    · intro z; exact of_decide_eq_true z.2
    · intro z
      refine ⟨?_, decide_eq_true z⟩
      by_cases h : p + i < l
      · exact h
      · rw [e h] at z; exact absurd z (by decide)
  · rw [if_neg c, if_neg c]
    constructor
    · intro z; exact of_decide_eq_true z.2
    · intro z
      refine ⟨?_, decide_eq_true z⟩
      by_cases h : p + i < l
      · exact h
      · rw [e h] at z; exact absurd z (by decide)
set_option maxRecDepth 100000 in
theorem wsL_fail {lt : Nat → Int32} {l p s j : Nat} (hno : ¬ okS lt l p j) : ∀ (k i : Nat), i + k = s + 1 → i ≤ j → j ≤ s → (∀ x, i ≤ x → x < j → okS lt l p x) → wsL lt l p s k i = some (p + j)
  | 0, i, h1, h2, h3, _ => by omega
  | k + 1, i, h1, h2, h3, h4 => by
    unfold wsL
    by_cases q : i = j
    · subst q
      rw [if_neg (fun z => hno (okS_iff.mp z))]
    · rw [if_pos (okS_iff.mpr (h4 i (Nat.le_refl _) (by omega)))]
      exact wsL_fail hno k (i + 1) (by omega) (by omega) h3 (fun x hx hx2 => h4 x (by omega) hx2)
set_option maxRecDepth 100000 in
theorem wsL_ok {lt : Nat → Int32} {l p s : Nat} : ∀ (k i : Nat), i + k = s + 1 → (∀ x, i ≤ x → x ≤ s → okS lt l p x) → wsL lt l p s k i = if ltA lt l (p + s + 1) = 59 then none else some (p + s + 1)
  | 0, i, h1, _ => rfl
  | k + 1, i, h1, h4 => by
    unfold wsL
    rw [if_pos (okS_iff.mpr (h4 i (Nat.le_refl _) (by omega)))]
    exact wsL_ok k (i + 1) (by omega) (fun x hx hx2 => h4 x (by omega) hx2)
set_option maxRecDepth 100000 in
theorem wis_fail {lt : Nat → Int32} {l p j : Nat} (h0 : ¬ sgN (ltA lt l p) = 0) (h1 : 1 ≤ j) (h2 : j ≤ sgN (ltA lt l p)) (h3 : ∀ x, 1 ≤ x → x < j → okS lt l p x) (hno : ¬ okS lt l p j) : wis lt l p = some (p + j) := by
  unfold wis
  rw [if_neg h0]
  exact wsL_fail hno _ 1 (by omega) h1 h2 h3
set_option maxRecDepth 100000 in
theorem wis_ok {lt : Nat → Int32} {l p : Nat} (h0 : ¬ sgN (ltA lt l p) = 0) (h3 : ∀ x, 1 ≤ x → x ≤ sgN (ltA lt l p) → okS lt l p x) : wis lt l p = if ltA lt l (p + sgN (ltA lt l p) + 1) = 59 then none else some (p + sgN (ltA lt l p) + 1) := by
  unfold wis
  rw [if_neg h0]
  exact wsL_ok _ 1 (by omega) h3
def tvl (lt : Nat → Int32) (l p i : Nat) : Int32 := if ltA lt l p = 114 ∧ i = 0 then ofL (ltA lt l (p + 1)) else if ltA lt l p = 116 ∧ i = 1 then digV lt l 3 (p + 2) 0 else digV lt l 1 (p + 1 + i) 0
def tnN (b : Int32) : Nat := if b = 109 then 3 else if b = 114 ∨ b = 116 ∨ b = 118 then 2 else 1
set_option maxRecDepth 100000 in
theorem okS_d {lt : Nat → Int32} {l p i : Nat} (h : ¬ (ltA lt l p = 114 ∧ i = 1)) : okS lt l p i ↔ isDg (ltA lt l (p + i)) := by
  unfold okS
  rw [if_neg h]
set_option maxRecDepth 100000 in
theorem X5_readsAll (H : Rules C T) {lt : Nat → Int32} {l p t : Nat} {S : Mem} (X : RdM S lt l (p + 1)) (hp : p < 100) (et : S 25 16 = nI t) (ht : t + 3 ≤ 99) (hs : ¬ sgN (ltA lt l p) = 0) {Q : Pst} (h0 : ∀ j, 1 ≤ j → j ≤ sgN (ltA lt l p) → (∀ x, 1 ≤ x → x < j → okS lt l p x) → ¬ okS lt l p j → ∀ S', RdM S' lt l (p + j) → FrT t (t + 3) S S' → Q (some (.int 0)) S') (h1 : (∀ x, 1 ≤ x → x ≤ sgN (ltA lt l p) → okS lt l p x) → ∀ S', RdM S' lt l (p + sgN (ltA lt l p) + 1) → FrT t (t + 3) S S' → (∀ i, i < tnN (ltA lt l p) → S' 37 (t + i) = tvl lt l p i) → Q (some (.int 1)) S') : C mX5_readsAll [.ref 25, .int (ltA lt l p)] S Q := by
  have cs : ltA lt l p = 114 ∨ ltA lt l p = 109 ∨ ltA lt l p = 116 ∨ ltA lt l p = 118 ∨ ltA lt l p = 99 ∨ ltA lt l p = 100 ∨ ltA lt l p = 98 := by
    unfold sgN at hs
    by_cases a1 : ltA lt l p = 98 ∨ ltA lt l p = 99 ∨ ltA lt l p = 100
    · rcases a1 with a | a | a <;> simp [a]
    · rw [if_neg a1] at hs
      by_cases a2 : ltA lt l p = 114 ∨ ltA lt l p = 118
      · rcases a2 with a | a <;> simp [a]
      · rw [if_neg a2] at hs
        by_cases a3 : ltA lt l p = 109
        · simp [a3]
        · rw [if_neg a3] at hs
          by_cases a4 : ltA lt l p = 116
          · simp [a4]
          · rw [if_neg a4] at hs
            exact absurd rfl hs
  have sgd : ∀ x i, ¬ (ltA lt l p = 114 ∧ i = 1) → p + i = x → (isDg (ltA lt l x) ↔ okS lt l p i) := fun x i h e => by rw [okS_d h, e]
  rcases cs with hb | hb | hb | hb | hb
  · have s2 : sgN (ltA lt l p) = 2 := by rw [hb]; decide
    have k1 : okS lt l p 1 ↔ 0 ≤ ofL (ltA lt l (p + 1)) := by unfold okS; rw [if_pos ⟨hb, rfl⟩]
    rw [s2] at h0 h1
    rw [hb]
    refine Rules.go H (by decide) (Nat.le_of_ble_eq_true rfl) ?_
    repeat' (first | (refine Rules.st H okX5_readsAll [] ?_; (conv => whnf); try (show T _ _ _ [_, _] _ _)) | refine br_t (by first | decide | assumption) ?_ | refine br_f (by first | decide | assumption) ?_ | refine br_c (fun _ => ?_) (fun _ => ?_) | refine ⟨by decide, ?_⟩ | refine ⟨by first | assumption | (unfold vp_in; decide) | ((with_reducible (refine vp_in_nI ?_ ?_)) <;> omega), ?_⟩ | fail)
    refine X5_readsKind H X (by omega) et (by omega) (fun q => ?_) (fun q S1 X1 F1 e1 v1 => ?_)
    · have h0 := h0 1 (by omega) (by omega) (fun x g1 g2 => by omega) (fun z => q (k1.mp z)) S X (fun _ _ _ _ => rfl)
      repeat' (first | (refine Rules.st H okX5_readsAll [] ?_; (conv => whnf); try (show T _ _ _ [_, _] _ _)) | refine br_t (by first | decide | assumption) ?_ | refine br_f (by first | decide | assumption) ?_ | refine br_c (fun _ => ?_) (fun _ => ?_) | refine ⟨by decide, ?_⟩ | refine ⟨by first | assumption | (unfold vp_in; decide) | ((with_reducible (refine vp_in_nI ?_ ?_)) <;> omega), ?_⟩ | fail)
      exact h0
    · repeat' (first | (refine Rules.st H okX5_readsAll [] ?_; (conv => whnf); try (show T _ _ _ [_, _] _ _)) | refine br_t (by first | decide | assumption) ?_ | refine br_f (by first | decide | assumption) ?_ | refine br_c (fun _ => ?_) (fun _ => ?_) | refine ⟨by decide, ?_⟩ | refine ⟨by first | assumption | (unfold vp_in; decide) | ((with_reducible (refine vp_in_nI ?_ ?_)) <;> omega), ?_⟩ | fail)
      refine X5_readsDigits H (n3 := 1) (by omega) X1 (by omega) e1 (by omega) (fun j hj hx hno S2 X2 F2 => ?_) (fun hx S2 X2 F2 e2 v2 => ?_)
      · obtain rfl : j = 0 := by omega
        have h0 := h0 2 (by omega) (by omega) (fun x g1 g2 => by obtain rfl : x = 1 := by omega
                                                                 exact k1.mpr q) (fun z => hno ((sgd (p + 1 + 1 + 0) 2 (by omega) (by omega)).mpr z)) S2 X2 ((F1.tr F2 (by omega) (by omega)).mono (by omega))
        repeat' (first | (refine Rules.st H okX5_readsAll [] ?_; (conv => whnf); try (show T _ _ _ [_, _] _ _)) | refine br_t (by first | decide | assumption) ?_ | refine br_f (by first | decide | assumption) ?_ | refine br_c (fun _ => ?_) (fun _ => ?_) | refine ⟨by decide, ?_⟩ | refine ⟨by first | assumption | (unfold vp_in; decide) | ((with_reducible (refine vp_in_nI ?_ ?_)) <;> omega), ?_⟩ | fail)
        exact h0
      · have h1 := h1 (fun x g1 g2 => by
          rcases (show x = 1 ∨ x = 2 by omega) with rfl | rfl
          · exact k1.mpr q
          · exact (sgd (p + 1 + 1 + 0) 2 (by omega) (by omega)).mp (hx 0 (by omega))) S2 (by rw [show p + 2 + 1 = p + 1 + 1 + 1 by omega]; exact X2) ((F1.tr F2 (by omega) (by omega)).mono (by omega)) (fun i hi => by
          rw [hb] at hi
          rcases (show i = 0 ∨ i = 1 by have : tnN 114 = 2 := by decide
                                        omega) with rfl | rfl
          · rw [Nat.add_zero, F2 37 t (by omega) (by omega), v1]
            unfold tvl
            rw [if_pos ⟨hb, rfl⟩]
          · rw [v2]
            unfold tvl
            rw [if_neg (by omega), if_neg (fun z => by rw [hb] at z; exact absurd z.1 (by decide))])
        repeat' (first | (refine Rules.st H okX5_readsAll [] ?_; (conv => whnf); try (show T _ _ _ [_, _] _ _)) | refine br_t (by first | decide | assumption) ?_ | refine br_f (by first | decide | assumption) ?_ | refine br_c (fun _ => ?_) (fun _ => ?_) | refine ⟨by decide, ?_⟩ | refine ⟨by first | assumption | (unfold vp_in; decide) | ((with_reducible (refine vp_in_nI ?_ ?_)) <;> omega), ?_⟩ | fail)
        exact h1
  · have s2 : sgN (ltA lt l p) = 3 := by rw [hb]; decide
    have nb : ¬ ltA lt l p = 114 := by rw [hb]; decide
    have nb2 : ¬ ltA lt l p = 116 := by rw [hb]; decide
    have tv : ∀ i, tvl lt l p i = digV lt l 1 (p + 1 + i) 0 := fun i => by
      unfold tvl
      rw [if_neg (fun z => nb z.1), if_neg (fun z => nb2 z.1)]
    rw [s2] at h0 h1
    rw [hb]
    refine Rules.go H (by decide) (Nat.le_of_ble_eq_true rfl) ?_
    repeat' (first | (refine Rules.st H okX5_readsAll [] ?_; (conv => whnf); try (show T _ _ _ [_, _] _ _)) | refine br_t (by first | decide | assumption) ?_ | refine br_f (by first | decide | assumption) ?_ | refine br_c (fun _ => ?_) (fun _ => ?_) | refine ⟨by decide, ?_⟩ | refine ⟨by first | assumption | (unfold vp_in; decide) | ((with_reducible (refine vp_in_nI ?_ ?_)) <;> omega), ?_⟩ | fail)
    refine X5_readsDigits H (n3 := 1) (by omega) X (by omega) et (by omega) (fun j hj hx hno S2 X2 F2 => ?_) (fun hx1 S1 X1 F1 e1 v1 => ?_)
    · obtain rfl : j = 0 := by omega
      have h0 := h0 1 (by omega) (by omega) (fun x g1 g2 => by omega) (fun z => hno ((sgd (p + 1 + 0) 1 (fun z => nb z.1) (by omega)).mpr z)) S2 X2 (F2.mono (by omega))
      repeat' (first | (refine Rules.st H okX5_readsAll [] ?_; (conv => whnf); try (show T _ _ _ [_, _] _ _)) | refine br_t (by first | decide | assumption) ?_ | refine br_f (by first | decide | assumption) ?_ | refine br_c (fun _ => ?_) (fun _ => ?_) | refine ⟨by decide, ?_⟩ | refine ⟨by first | assumption | (unfold vp_in; decide) | ((with_reducible (refine vp_in_nI ?_ ?_)) <;> omega), ?_⟩ | fail)
      exact h0
    repeat' (first | (refine Rules.st H okX5_readsAll [] ?_; (conv => whnf); try (show T _ _ _ [_, _] _ _)) | refine br_t (by first | decide | assumption) ?_ | refine br_f (by first | decide | assumption) ?_ | refine br_c (fun _ => ?_) (fun _ => ?_) | refine ⟨by decide, ?_⟩ | refine ⟨by first | assumption | (unfold vp_in; decide) | ((with_reducible (refine vp_in_nI ?_ ?_)) <;> omega), ?_⟩ | fail)
    refine X5_readsDigits H (n3 := 1) (by omega) X1 (by omega) e1 (by omega) (fun j hj hx hno S2 X2 F2 => ?_) (fun hx2 S2 X2 F2 e2 v2 => ?_)
    · obtain rfl : j = 0 := by omega
      have h0 := h0 2 (by omega) (by omega) (fun x g1 g2 => by obtain rfl : x = 1 := by omega
                                                               exact (sgd (p + 1 + 0) 1 (fun z => nb z.1) (by omega)).mp (hx1 0 (by omega))) (fun z => hno ((sgd (p + 1 + 1 + 0) 2 (fun z => nb z.1) (by omega)).mpr z)) S2 X2 ((F1.tr F2 (by omega) (by omega)).mono (by omega))
      repeat' (first | (refine Rules.st H okX5_readsAll [] ?_; (conv => whnf); try (show T _ _ _ [_, _] _ _)) | refine br_t (by first | decide | assumption) ?_ | refine br_f (by first | decide | assumption) ?_ | refine br_c (fun _ => ?_) (fun _ => ?_) | refine ⟨by decide, ?_⟩ | refine ⟨by first | assumption | (unfold vp_in; decide) | ((with_reducible (refine vp_in_nI ?_ ?_)) <;> omega), ?_⟩ | fail)
      exact h0
    repeat' (first | (refine Rules.st H okX5_readsAll [] ?_; (conv => whnf); try (show T _ _ _ [_, _] _ _)) | refine br_t (by first | decide | assumption) ?_ | refine br_f (by first | decide | assumption) ?_ | refine br_c (fun _ => ?_) (fun _ => ?_) | refine ⟨by decide, ?_⟩ | refine ⟨by first | assumption | (unfold vp_in; decide) | ((with_reducible (refine vp_in_nI ?_ ?_)) <;> omega), ?_⟩ | fail)
    refine X5_readsDigits H (n3 := 1) (by omega) X2 (by omega) e2 (by omega) (fun j hj hx hno S3 X3 F3 => ?_) (fun hx3 S3 X3 F3 e3 v3 => ?_)
    · obtain rfl : j = 0 := by omega
      have h0 := h0 3 (by omega) (by omega) (fun x g1 g2 => by
        rcases (show x = 1 ∨ x = 2 by omega) with rfl | rfl
        · exact (sgd (p + 1 + 0) 1 (fun z => nb z.1) (by omega)).mp (hx1 0 (by omega))
        · exact (sgd (p + 1 + 1 + 0) 2 (fun z => nb z.1) (by omega)).mp (hx2 0 (by omega))) (fun z => hno ((sgd (p + 1 + 1 + 1 + 0) 3 (fun z => nb z.1) (by omega)).mpr z)) S3 (by rw [show p + 3 = p + 1 + 1 + 1 + 0 by omega]; exact X3) ((F1.tr F2 (by omega) (by omega)).tr F3 (by omega) (by omega))
      repeat' (first | (refine Rules.st H okX5_readsAll [] ?_; (conv => whnf); try (show T _ _ _ [_, _] _ _)) | refine br_t (by first | decide | assumption) ?_ | refine br_f (by first | decide | assumption) ?_ | refine br_c (fun _ => ?_) (fun _ => ?_) | refine ⟨by decide, ?_⟩ | refine ⟨by first | assumption | (unfold vp_in; decide) | ((with_reducible (refine vp_in_nI ?_ ?_)) <;> omega), ?_⟩ | fail)
      exact h0
    · have h1 := h1 (fun x g1 g2 => by
          rcases (show x = 1 ∨ x = 2 ∨ x = 3 by omega) with rfl | rfl | rfl
          · exact (sgd (p + 1 + 0) 1 (fun z => nb z.1) (by omega)).mp (hx1 0 (by omega))
          · exact (sgd (p + 1 + 1 + 0) 2 (fun z => nb z.1) (by omega)).mp (hx2 0 (by omega))
          · exact (sgd (p + 1 + 1 + 1 + 0) 3 (fun z => nb z.1) (by omega)).mp (hx3 0 (by omega))) S3 (by rw [show p + 3 + 1 = p + 1 + 1 + 1 + 1 by omega]; exact X3) ((F1.tr F2 (by omega) (by omega)).tr F3 (by omega) (by omega)) (fun i hi => by
          rw [hb] at hi
          rw [tv]
          rcases (show i = 0 ∨ i = 1 ∨ i = 2 by have : tnN 109 = 3 := by decide
                                                omega) with rfl | rfl | rfl
          · rw [Nat.add_zero, F3 37 t (by omega) (by omega), F2 37 t (by omega) (by omega), v1]
            all_goals rfl
          · rw [F3 37 (t + 1) (by omega) (by omega), v2]
          · rw [show t + 2 = t + 1 + 1 by omega, v3])
      repeat' (first | (refine Rules.st H okX5_readsAll [] ?_; (conv => whnf); try (show T _ _ _ [_, _] _ _)) | refine br_t (by first | decide | assumption) ?_ | refine br_f (by first | decide | assumption) ?_ | refine br_c (fun _ => ?_) (fun _ => ?_) | refine ⟨by decide, ?_⟩ | refine ⟨by first | assumption | (unfold vp_in; decide) | ((with_reducible (refine vp_in_nI ?_ ?_)) <;> omega), ?_⟩ | fail)
      exact h1
  · have s2 : sgN (ltA lt l p) = 4 := by rw [hb]; decide
    have nb : ¬ ltA lt l p = 114 := by rw [hb]; decide
    rw [s2] at h0 h1
    rw [hb]
    refine Rules.go H (by decide) (Nat.le_of_ble_eq_true rfl) ?_
    repeat' (first | (refine Rules.st H okX5_readsAll [] ?_; (conv => whnf); try (show T _ _ _ [_, _] _ _)) | refine br_t (by first | decide | assumption) ?_ | refine br_f (by first | decide | assumption) ?_ | refine br_c (fun _ => ?_) (fun _ => ?_) | refine ⟨by decide, ?_⟩ | refine ⟨by first | assumption | (unfold vp_in; decide) | ((with_reducible (refine vp_in_nI ?_ ?_)) <;> omega), ?_⟩ | fail)
    refine X5_readsDigits H (n3 := 1) (by omega) X (by omega) et (by omega) (fun j hj hx hno S2 X2 F2 => ?_) (fun hx1 S1 X1 F1 e1 v1 => ?_)
    · obtain rfl : j = 0 := by omega
      have h0 := h0 1 (by omega) (by omega) (fun x g1 g2 => by omega) (fun z => hno ((sgd (p + 1 + 0) 1 (fun z => nb z.1) (by omega)).mpr z)) S2 X2 (F2.mono (by omega))
      repeat' (first | (refine Rules.st H okX5_readsAll [] ?_; (conv => whnf); try (show T _ _ _ [_, _] _ _)) | refine br_t (by first | decide | assumption) ?_ | refine br_f (by first | decide | assumption) ?_ | refine br_c (fun _ => ?_) (fun _ => ?_) | refine ⟨by decide, ?_⟩ | refine ⟨by first | assumption | (unfold vp_in; decide) | ((with_reducible (refine vp_in_nI ?_ ?_)) <;> omega), ?_⟩ | fail)
      exact h0
    repeat' (first | (refine Rules.st H okX5_readsAll [] ?_; (conv => whnf); try (show T _ _ _ [_, _] _ _)) | refine br_t (by first | decide | assumption) ?_ | refine br_f (by first | decide | assumption) ?_ | refine br_c (fun _ => ?_) (fun _ => ?_) | refine ⟨by decide, ?_⟩ | refine ⟨by first | assumption | (unfold vp_in; decide) | ((with_reducible (refine vp_in_nI ?_ ?_)) <;> omega), ?_⟩ | fail)
    refine X5_readsDigits H (n3 := 3) (by omega) X1 (by omega) e1 (by omega) (fun j hj hx hno S2 X2 F2 => ?_) (fun hx2 S2 X2 F2 e2 v2 => ?_)
    · have h0 := h0 (2 + j) (by omega) (by omega) (fun x g1 g2 => by
        by_cases x1 : x = 1
        · subst x1
          exact (sgd (p + 1 + 0) 1 (fun z => nb z.1) (by omega)).mp (hx1 0 (by omega))
        · exact (sgd (p + 1 + 1 + (x - 2)) x (fun z => nb z.1) (by omega)).mp (hx (x - 2) (by omega))) (fun z => hno ((sgd (p + 1 + 1 + j) (2 + j) (fun z => nb z.1) (by omega)).mpr z)) S2 (by rw [show p + (2 + j) = p + 1 + 1 + j by omega]; exact X2) ((F1.tr F2 (by omega) (by omega)).mono (by omega))
      repeat' (first | (refine Rules.st H okX5_readsAll [] ?_; (conv => whnf); try (show T _ _ _ [_, _] _ _)) | refine br_t (by first | decide | assumption) ?_ | refine br_f (by first | decide | assumption) ?_ | refine br_c (fun _ => ?_) (fun _ => ?_) | refine ⟨by decide, ?_⟩ | refine ⟨by first | assumption | (unfold vp_in; decide) | ((with_reducible (refine vp_in_nI ?_ ?_)) <;> omega), ?_⟩ | fail)
      exact h0
    · have h1 := h1 (fun x g1 g2 => by
        by_cases x1 : x = 1
        · subst x1
          exact (sgd (p + 1 + 0) 1 (fun z => nb z.1) (by omega)).mp (hx1 0 (by omega))
        · exact (sgd (p + 1 + 1 + (x - 2)) x (fun z => nb z.1) (by omega)).mp (hx2 (x - 2) (by omega))) S2 (by rw [show p + 4 + 1 = p + 1 + 1 + 3 by omega]; exact X2) ((F1.tr F2 (by omega) (by omega)).mono (by omega)) (fun i hi => by
          rw [hb] at hi
          rcases (show i = 0 ∨ i = 1 by have : tnN 116 = 2 := by decide
                                        omega) with rfl | rfl
          · rw [Nat.add_zero, F2 37 t (by omega) (by omega), v1]
            unfold tvl
            rw [if_neg (fun z => nb z.1), if_neg (by omega)]
            all_goals rfl
          · rw [v2]
            unfold tvl
            rw [if_neg (by omega), if_pos ⟨hb, rfl⟩])
      repeat' (first | (refine Rules.st H okX5_readsAll [] ?_; (conv => whnf); try (show T _ _ _ [_, _] _ _)) | refine br_t (by first | decide | assumption) ?_ | refine br_f (by first | decide | assumption) ?_ | refine br_c (fun _ => ?_) (fun _ => ?_) | refine ⟨by decide, ?_⟩ | refine ⟨by first | assumption | (unfold vp_in; decide) | ((with_reducible (refine vp_in_nI ?_ ?_)) <;> omega), ?_⟩ | fail)
      exact h1
  · have s2 : sgN (ltA lt l p) = 2 := by rw [hb]; decide
    have nb : ¬ ltA lt l p = 114 := by rw [hb]; decide
    have nb2 : ¬ ltA lt l p = 116 := by rw [hb]; decide
    have tv : ∀ i, tvl lt l p i = digV lt l 1 (p + 1 + i) 0 := fun i => by
      unfold tvl
      rw [if_neg (fun z => nb z.1), if_neg (fun z => nb2 z.1)]
    rw [s2] at h0 h1
    rw [hb]
    refine Rules.go H (by decide) (Nat.le_of_ble_eq_true rfl) ?_
    repeat' (first | (refine Rules.st H okX5_readsAll [] ?_; (conv => whnf); try (show T _ _ _ [_, _] _ _)) | refine br_t (by first | decide | assumption) ?_ | refine br_f (by first | decide | assumption) ?_ | refine br_c (fun _ => ?_) (fun _ => ?_) | refine ⟨by decide, ?_⟩ | refine ⟨by first | assumption | (unfold vp_in; decide) | ((with_reducible (refine vp_in_nI ?_ ?_)) <;> omega), ?_⟩ | fail)
    refine X5_readsDigits H (n3 := 1) (by omega) X (by omega) et (by omega) (fun j hj hx hno S2 X2 F2 => ?_) (fun hx1 S1 X1 F1 e1 v1 => ?_)
    · obtain rfl : j = 0 := by omega
      have h0 := h0 1 (by omega) (by omega) (fun x g1 g2 => by omega) (fun z => hno ((sgd (p + 1 + 0) 1 (fun z => nb z.1) (by omega)).mpr z)) S2 X2 (F2.mono (by omega))
      repeat' (first | (refine Rules.st H okX5_readsAll [] ?_; (conv => whnf); try (show T _ _ _ [_, _] _ _)) | refine br_t (by first | decide | assumption) ?_ | refine br_f (by first | decide | assumption) ?_ | refine br_c (fun _ => ?_) (fun _ => ?_) | refine ⟨by decide, ?_⟩ | refine ⟨by first | assumption | (unfold vp_in; decide) | ((with_reducible (refine vp_in_nI ?_ ?_)) <;> omega), ?_⟩ | fail)
      exact h0
    repeat' (first | (refine Rules.st H okX5_readsAll [] ?_; (conv => whnf); try (show T _ _ _ [_, _] _ _)) | refine br_t (by first | decide | assumption) ?_ | refine br_f (by first | decide | assumption) ?_ | refine br_c (fun _ => ?_) (fun _ => ?_) | refine ⟨by decide, ?_⟩ | refine ⟨by first | assumption | (unfold vp_in; decide) | ((with_reducible (refine vp_in_nI ?_ ?_)) <;> omega), ?_⟩ | fail)
    refine X5_readsDigits H (n3 := 1) (by omega) X1 (by omega) e1 (by omega) (fun j hj hx hno S2 X2 F2 => ?_) (fun hx2 S2 X2 F2 e2 v2 => ?_)
    · obtain rfl : j = 0 := by omega
      have h0 := h0 2 (by omega) (by omega) (fun x g1 g2 => by obtain rfl : x = 1 := by omega
                                                               exact (sgd (p + 1 + 0) 1 (fun z => nb z.1) (by omega)).mp (hx1 0 (by omega))) (fun z => hno ((sgd (p + 1 + 1 + 0) 2 (fun z => nb z.1) (by omega)).mpr z)) S2 X2 ((F1.tr F2 (by omega) (by omega)).mono (by omega))
      repeat' (first | (refine Rules.st H okX5_readsAll [] ?_; (conv => whnf); try (show T _ _ _ [_, _] _ _)) | refine br_t (by first | decide | assumption) ?_ | refine br_f (by first | decide | assumption) ?_ | refine br_c (fun _ => ?_) (fun _ => ?_) | refine ⟨by decide, ?_⟩ | refine ⟨by first | assumption | (unfold vp_in; decide) | ((with_reducible (refine vp_in_nI ?_ ?_)) <;> omega), ?_⟩ | fail)
      exact h0
    · have h1 := h1 (fun x g1 g2 => by
          rcases (show x = 1 ∨ x = 2 by omega) with rfl | rfl
          · exact (sgd (p + 1 + 0) 1 (fun z => nb z.1) (by omega)).mp (hx1 0 (by omega))
          · exact (sgd (p + 1 + 1 + 0) 2 (fun z => nb z.1) (by omega)).mp (hx2 0 (by omega))) S2 (by rw [show p + 2 + 1 = p + 1 + 1 + 1 by omega]; exact X2) ((F1.tr F2 (by omega) (by omega)).mono (by omega)) (fun i hi => by
          rw [hb] at hi
          rw [tv]
          rcases (show i = 0 ∨ i = 1 by have : tnN 118 = 2 := by decide
                                        omega) with rfl | rfl
          · rw [Nat.add_zero, F2 37 t (by omega) (by omega), v1]
            all_goals rfl
          · rw [v2])
      repeat' (first | (refine Rules.st H okX5_readsAll [] ?_; (conv => whnf); try (show T _ _ _ [_, _] _ _)) | refine br_t (by first | decide | assumption) ?_ | refine br_f (by first | decide | assumption) ?_ | refine br_c (fun _ => ?_) (fun _ => ?_) | refine ⟨by decide, ?_⟩ | refine ⟨by first | assumption | (unfold vp_in; decide) | ((with_reducible (refine vp_in_nI ?_ ?_)) <;> omega), ?_⟩ | fail)
      exact h1
  · have s2 : sgN (ltA lt l p) = 1 := by rcases hb with hb | hb | hb <;> rw [hb] <;> decide
    have t1 : tnN (ltA lt l p) = 1 := by rcases hb with hb | hb | hb <;> rw [hb] <;> decide
    have nb : ¬ ltA lt l p = 114 := by rcases hb with hb | hb | hb <;> rw [hb] <;> decide
    have nb2 : ¬ ltA lt l p = 116 := by rcases hb with hb | hb | hb <;> rw [hb] <;> decide
    have tv : ∀ i, tvl lt l p i = digV lt l 1 (p + 1 + i) 0 := fun i => by
      unfold tvl
      rw [if_neg (fun z => nb z.1), if_neg (fun z => nb2 z.1)]
    rw [s2] at h0 h1
    rw [t1] at h1
    have key : C mX5_readsDigits [.ref 25, .int (nI 1)] S Q := X5_readsDigits H (n3 := 1) (by omega) X (by omega) et (by omega) (fun j hj hx hno S2 X2 F2 => by
      obtain rfl : j = 0 := by omega
      exact h0 1 (by omega) (by omega) (fun x g1 g2 => by omega) (fun z => hno ((sgd (p + 1 + 0) 1 (fun z => nb z.1) (by omega)).mpr z)) S2 X2 (F2.mono (by omega))) (fun hx1 S1 X1 F1 e1 v1 => h1 (fun x g1 g2 => by
        obtain rfl : x = 1 := by omega
        exact (sgd (p + 1 + 0) 1 (fun z => nb z.1) (by omega)).mp (hx1 0 (by omega))) S1 X1 (F1.mono (by omega)) (fun i hi => by
        obtain rfl : i = 0 := by omega
        rw [tv, Nat.add_zero, v1]
        all_goals rfl))
    rcases hb with hb | hb | hb <;>
    · rw [hb]
      refine Rules.go H (by decide) (Nat.le_of_ble_eq_true rfl) ?_
      repeat' (first | (refine Rules.st H okX5_readsAll [] ?_; (conv => whnf); try (show T _ _ _ [_, _] _ _)) | refine br_t (by first | decide | assumption) ?_ | refine br_f (by first | decide | assumption) ?_ | refine br_c (fun _ => ?_) (fun _ => ?_) | refine ⟨by decide, ?_⟩ | refine ⟨by first | assumption | (unfold vp_in; decide) | ((with_reducible (refine vp_in_nI ?_ ?_)) <;> omega), ?_⟩ | fail)
      refine X5_readsDigits H (n3 := 1) (by omega) X (by omega) et (by omega) (fun j hj hx hno S2 X2 F2 => ?_) (fun hx1 S1 X1 F1 e1 v1 => ?_)
      · obtain rfl : j = 0 := by omega
        have h0 := h0 1 (by omega) (by omega) (fun x g1 g2 => by omega) (fun z => hno ((sgd (p + 1 + 0) 1 (fun z => nb z.1) (by omega)).mpr z)) S2 X2 (F2.mono (by omega))
        repeat' (first | (refine Rules.st H okX5_readsAll [] ?_; (conv => whnf); try (show T _ _ _ [_, _] _ _)) | refine br_t (by first | decide | assumption) ?_ | refine br_f (by first | decide | assumption) ?_ | refine br_c (fun _ => ?_) (fun _ => ?_) | refine ⟨by decide, ?_⟩ | refine ⟨by first | assumption | (unfold vp_in; decide) | ((with_reducible (refine vp_in_nI ?_ ?_)) <;> omega), ?_⟩ | fail)
        exact h0
      · have h1 := h1 (fun x g1 g2 => by
          obtain rfl : x = 1 := by omega
          exact (sgd (p + 1 + 0) 1 (fun z => nb z.1) (by omega)).mp (hx1 0 (by omega))) S1 X1 (F1.mono (by omega)) (fun i hi => by
          obtain rfl : i = 0 := by omega
          rw [tv, Nat.add_zero, v1]
          all_goals rfl)
        repeat' (first | (refine Rules.st H okX5_readsAll [] ?_; (conv => whnf); try (show T _ _ _ [_, _] _ _)) | refine br_t (by first | decide | assumption) ?_ | refine br_f (by first | decide | assumption) ?_ | refine br_c (fun _ => ?_) (fun _ => ?_) | refine ⟨by decide, ?_⟩ | refine ⟨by first | assumption | (unfold vp_in; decide) | ((with_reducible (refine vp_in_nI ?_ ?_)) <;> omega), ?_⟩ | fail)
        exact h1
end M41
