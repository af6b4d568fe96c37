section M42
variable {C : Cst} {T : Nat → Pst → Nat → Lcs → List Value → Mem → Prop}
/-- the statement k, told at the place p -/
def StM (S : Mem) (k : Nat) (lt : Nat → Int32) (l p : Nat) : Prop := S 35 k = ltA lt l p ∧ S 36 k = nI p ∧ (∀ i, i < tnN (ltA lt l p) → S 37 (3 * k + i) = tvl lt l p i) ∧ (∀ x, 1 ≤ x → x ≤ sgN (ltA lt l p) → okS lt l p x) ∧ ¬ sgN (ltA lt l p) = 0
def FrS (k : Nat) (S S' : Mem) : Prop := ∀ a j, ¬ (a = 25 ∧ (j = 14 ∨ j = 16)) → ¬ ((a = 35 ∨ a = 36) ∧ j = k) → ¬ (a = 37 ∧ 3 * k ≤ j ∧ j < 3 * k + 3) → S' a j = S a j
set_option maxRecDepth 100000 in
theorem tnN_3 (b : Int32) : tnN b ≤ 3 := by
  unfold tnN
  split
  · omega
  · split <;> omega
set_option maxRecDepth 100000 in
theorem StM.fr {S S' : Mem} {k i : Nat} {lt : Nat → Int32} {l p : Nat} (h : StM S i lt l p) (F : FrS k S S') (hi : i < k) : StM S' i lt l p := by
  obtain ⟨h1, h2, h3, h4⟩ := h
  refine ⟨by rw [F 35 i (by omega) (by omega) (by omega)]; exact h1, by rw [F 36 i (by omega) (by omega) (by omega)]; exact h2, fun x hx => ?_, h4⟩
  have := tnN_3 (ltA lt l p)
  rw [F 37 (3 * i + x) (by omega) (by omega) (by omega)]
  exact h3 x hx
set_option maxRecDepth 100000 in
theorem StM.put {S : Mem} {i : Nat} {v : Int32} {lt : Nat → Int32} {l p : Nat} (h : StM S i lt l p) : StM (up S 25 15 v) i lt l p := ⟨by rw [up_k (by omega)]; exact h.1, by rw [up_k (by omega)]; exact h.2.1, fun x hx => by rw [up_k (by omega)]; exact h.2.2.1 x hx, h.2.2.2⟩
set_option maxRecDepth 100000 in
theorem FrS.sc {k : Nat} {S S' : Mem} (F : FrS k S S') : ScM 0 S S' := fun a j hs => by
  rw [if_neg (fun z => z.2.2 rfl)]
  exact F a j (by unfold scrM at hs; omega) (by unfold scrM at hs; omega) (by unfold scrM at hs; omega)
set_option maxRecDepth 100000 in
theorem sg_cs {b : Int32} (hs : ¬ sgN b = 0) : b = 114 ∨ b = 109 ∨ b = 116 ∨ b = 118 ∨ b = 99 ∨ b = 100 ∨ b = 98 := by
  unfold sgN at hs
  by_cases a1 : b = 98 ∨ b = 99 ∨ b = 100
  · rcases a1 with a | a | a <;> simp [a]
  · rw [if_neg a1] at hs
    by_cases a2 : b = 114 ∨ b = 118
    · rcases a2 with a | a <;> simp [a]
    · rw [if_neg a2] at hs
      by_cases a3 : b = 109
      · simp [a3]
      · rw [if_neg a3] at hs
        by_cases a4 : b = 116
        · simp [a4]
        · rw [if_neg a4] at hs
          exact absurd rfl hs
set_option maxRecDepth 100000 in
theorem sg_0 {b : Int32} (hs : sgN b = 0) : ¬ b = 114 ∧ ¬ b = 109 ∧ ¬ b = 116 ∧ ¬ b = 118 ∧ ¬ b = 99 ∧ ¬ b = 100 ∧ ¬ b = 98 := by
  refine ⟨?_, ?_, ?_, ?_, ?_, ?_, ?_⟩ <;> (rintro rfl; exact absurd hs (by decide))
set_option maxRecDepth 100000 in
theorem X5_statement (H : Rules C T) {lt : Nat → Int32} {l p k : Nat} {S : Mem} (X : RdM S lt l p) (hp : p ≤ l) (ek : S 25 15 = nI k) (hk : k ≤ 32) {Q : Pst} (h0 : ∀ w, wis lt l p = some w → ∀ S', RdM S' lt l w → FrS k S S' → Q (some (.int 0)) S') (h1 : wis lt l p = none → ∀ S', RdM S' lt l (p + sgN (ltA lt l p) + 2) → StM S' k lt l p → FrS k S S' → Q (some (.int 1)) S') : C mX5_statement [.ref 25] S Q := by
  have hl := X.1
  by_cases hs : sgN (ltA lt l p) = 0
  · obtain ⟨n1, n2, n3, n4, n5, n6, n7⟩ := sg_0 hs
    have h0 := h0 p (by unfold wis; rw [if_pos hs]) S X (fun _ _ _ _ _ => rfl)
    refine Rules.go H (by decide) (Nat.le_of_ble_eq_true rfl) ?_
    repeat' (first | (refine Rules.st H okX5_statement [] ?_; (conv => whnf); try (show T _ _ _ [_, _] _ _)) | refine br_t (by first | decide | assumption) ?_ | refine br_f (by first | decide | assumption) ?_ | refine br_c (fun _ => ?_) (fun _ => ?_) | refine ⟨by decide, ?_⟩ | refine ⟨by first | assumption | (unfold vp_in; decide) | ((with_reducible (refine vp_in_nI ?_ ?_)) <;> omega), ?_⟩ | fail)
    refine X5_letterNow H X (by omega) ?_
    repeat' (first | (refine Rules.st H okX5_statement [] ?_; (conv => whnf); try (show T _ _ _ [_, _] _ _)) | refine br_t (by first | decide | assumption) ?_ | refine br_f (by first | decide | assumption) ?_ | refine br_c (fun _ => ?_) (fun _ => ?_) | refine ⟨by decide, ?_⟩ | refine ⟨by first | assumption | (unfold vp_in; decide) | ((with_reducible (refine vp_in_nI ?_ ?_)) <;> omega), ?_⟩ | fail)
    exact h0
  · have cs := sg_cs hs
    have hv1 : vp_in (S 25 15) 33 := by rw [ek]; exact vp_in_nI (by omega) (by omega)
    have a1 : ∀ i x j, up S 35 i x 25 j = S 25 j := fun i x j => up_k (by omega)
    have hv2 : vp_in (up S 35 (S 25 15).toNatClampNeg (ltA lt l p) 25 15) 33 := by rw [a1]; exact hv1
    have e4 : up (up (up (up S 35 (S 25 15).toNatClampNeg (ltA lt l p)) 36 (up S 35 (S 25 15).toNatClampNeg (ltA lt l p) 25 15).toNatClampNeg (up S 35 (S 25 15).toNatClampNeg (ltA lt l p) 25 14)) 25 16 (3 * up (up S 35 (S 25 15).toNatClampNeg (ltA lt l p)) 36 (up S 35 (S 25 15).toNatClampNeg (ltA lt l p) 25 15).toNatClampNeg (up S 35 (S 25 15).toNatClampNeg (ltA lt l p) 25 14) 25 15)) 25 14 (up (up (up S 35 (S 25 15).toNatClampNeg (ltA lt l p)) 36 (up S 35 (S 25 15).toNatClampNeg (ltA lt l p) 25 15).toNatClampNeg (up S 35 (S 25 15).toNatClampNeg (ltA lt l p) 25 14)) 25 16 (3 * up (up S 35 (S 25 15).toNatClampNeg (ltA lt l p)) 36 (up S 35 (S 25 15).toNatClampNeg (ltA lt l p) 25 15).toNatClampNeg (up S 35 (S 25 15).toNatClampNeg (ltA lt l p) 25 14) 25 15) 25 14 + 1) = up (up (up (up S 35 k (ltA lt l p)) 36 k (nI p)) 25 16 (nI (3 * k))) 25 14 (nI (p + 1)) := by
      have a2 : ∀ i x i2 y j, up (up S 35 i x) 36 i2 y 25 j = S 25 j := fun i x i2 y j => by rw [up_k (by omega), up_k (by omega)]
      have a3 : ∀ i x i2 y z, up (up (up S 35 i x) 36 i2 y) 25 16 z 25 14 = S 25 14 := fun i x i2 y z => by rw [up_j (by omega), up_k (by omega), up_k (by omega)]
      rw [a3, a2, a1, a1, ek, X.2.2.2, nIc (by omega), nI_1, show (3 : Int32) = nI 3 from rfl, nI_mul]
    have h49 : T mX5_statement Q 49 [some (.ref 25), some (.int (ltA lt l p))] [] S := by
      skip
      repeat' (first | (refine Rules.st H okX5_statement [] ?_; (conv => whnf); try (show T _ _ _ [_, _] _ _)) | refine br_t (by first | decide | assumption) ?_ | refine br_f (by first | decide | assumption) ?_ | refine br_c (fun _ => ?_) (fun _ => ?_) | refine ⟨by decide, ?_⟩ | refine ⟨by first | assumption | (unfold vp_in; decide) | ((with_reducible (refine vp_in_nI ?_ ?_)) <;> omega), ?_⟩ | fail)
      rw [e4]
      have F4 : FrS k S (up (up (up (up S 35 k (ltA lt l p)) 36 k (nI p)) 25 16 (nI (3 * k))) 25 14 (nI (p + 1))) := fun a j g1 g2 g3 => by
        unfold up
        rw [if_neg (fun z => g1 ⟨z.1, Or.inl z.2⟩), if_neg (fun z => g1 ⟨z.1, Or.inr z.2⟩), if_neg (fun z => g2 ⟨Or.inr z.1, z.2⟩), if_neg (fun z => g2 ⟨Or.inl z.1, z.2⟩)]
      have X4 : RdM (up (up (up (up S 35 k (ltA lt l p)) 36 k (nI p)) 25 16 (nI (3 * k))) 25 14 (nI (p + 1))) lt l (p + 1) := ⟨hl, by rw [F4 25 13 (by omega) (by omega) (by omega)]; exact X.2.1, fun j hj => by rw [F4 34 j (by omega) (by omega) (by omega)]; exact X.2.2.1 j hj, up_at⟩
      have e35 : up (up (up (up S 35 k (ltA lt l p)) 36 k (nI p)) 25 16 (nI (3 * k))) 25 14 (nI (p + 1)) 35 k = ltA lt l p := by rw [up_k (by omega), up_k (by omega), up_k (by omega), up_at]
      have e36 : up (up (up (up S 35 k (ltA lt l p)) 36 k (nI p)) 25 16 (nI (3 * k))) 25 14 (nI (p + 1)) 36 k = nI p := by rw [up_k (by omega), up_k (by omega), up_at]
      have e16 : up (up (up (up S 35 k (ltA lt l p)) 36 k (nI p)) 25 16 (nI (3 * k))) 25 14 (nI (p + 1)) 25 16 = nI (3 * k) := by rw [up_j (by omega), up_at]
      generalize up (up (up (up S 35 k (ltA lt l p)) 36 k (nI p)) 25 16 (nI (3 * k))) 25 14 (nI (p + 1)) = S4 at F4 X4 e35 e36 e16 ⊢
      have FF : ∀ {S5 : Mem}, FrT (3 * k) (3 * k + 3) S4 S5 → FrS k S S5 := fun {S5} F5 a j g1 g2 g3 => by rw [F5 a j g1 g3, F4 a j g1 g2 g3]
      refine X5_readsAll H X4 (by omega) e16 (by omega) hs (fun j q1 q2 q3 q4 S5 X5 F5 => ?_) (fun q3 S5 X5 F5 v5 => ?_)
      · have h0 := h0 (p + j) (wis_fail hs q1 q2 q3 q4) S5 X5 (FF F5)
        repeat' (first | (refine Rules.st H okX5_statement [] ?_; (conv => whnf); try (show T _ _ _ [_, _] _ _)) | refine br_t (by first | decide | assumption) ?_ | refine br_f (by first | decide | assumption) ?_ | refine br_c (fun _ => ?_) (fun _ => ?_) | refine ⟨by decide, ?_⟩ | refine ⟨by first | assumption | (unfold vp_in; decide) | ((with_reducible (refine vp_in_nI ?_ ?_)) <;> omega), ?_⟩ | fail)
        exact h0
      · have sl : sgN (ltA lt l p) ≤ 4 := by
          rcases cs with h | h | h | h | h | h | h <;> rw [h] <;> decide
        have ew := wis_ok hs q3
        repeat' (first | (refine Rules.st H okX5_statement [] ?_; (conv => whnf); try (show T _ _ _ [_, _] _ _)) | refine br_t (by first | decide | assumption) ?_ | refine br_f (by first | decide | assumption) ?_ | refine br_c (fun _ => ?_) (fun _ => ?_) | refine ⟨by decide, ?_⟩ | refine ⟨by first | assumption | (unfold vp_in; decide) | ((with_reducible (refine vp_in_nI ?_ ?_)) <;> omega), ?_⟩ | fail)
        refine X5_letterNow H X5 (by omega) ?_
        by_cases q59 : ltA lt l (p + sgN (ltA lt l p) + 1) = 59
        · rw [if_pos q59] at ew
          have h1 := h1 ew (up S5 25 14 (nI (p + sgN (ltA lt l p) + 1 + 1))) (X5.step rfl) ⟨by rw [up_k (by omega), F5 35 k (by omega) (by omega), e35], by rw [up_k (by omega), F5 36 k (by omega) (by omega), e36], fun i hi => by rw [up_k (by omega)]; exact v5 i hi, q3, hs⟩ (fun a j g1 g2 g3 => by
            unfold up
            rw [if_neg (fun z => g1 ⟨z.1, Or.inl z.2⟩)]
            exact FF F5 a j g1 g2 g3)
          rw [← nI_1, ← X5.2.2.2] at h1
          repeat' (first | (refine Rules.st H okX5_statement [] ?_; (conv => whnf); try (show T _ _ _ [_, _] _ _)) | refine br_t (by first | decide | assumption) ?_ | refine br_f (by first | decide | assumption) ?_ | refine br_c (fun _ => ?_) (fun _ => ?_) | refine ⟨by decide, ?_⟩ | refine ⟨by first | assumption | (unfold vp_in; decide) | ((with_reducible (refine vp_in_nI ?_ ?_)) <;> omega), ?_⟩ | fail)
          exact h1
        · rw [if_neg q59] at ew
          have h0 := h0 _ ew S5 X5 (FF F5)
          repeat' (first | (refine Rules.st H okX5_statement [] ?_; (conv => whnf); try (show T _ _ _ [_, _] _ _)) | refine br_t (by first | decide | assumption) ?_ | refine br_f (by first | decide | assumption) ?_ | refine br_c (fun _ => ?_) (fun _ => ?_) | refine ⟨by decide, ?_⟩ | refine ⟨by first | assumption | (unfold vp_in; decide) | ((with_reducible (refine vp_in_nI ?_ ?_)) <;> omega), ?_⟩ | fail)
          exact h0
    refine Rules.go H (by decide) (Nat.le_of_ble_eq_true rfl) ?_
    repeat' (first | (refine Rules.st H okX5_statement [49] ?_; (conv => whnf); try (show T _ _ _ [_, _] _ _)) | refine br_t (by first | decide | assumption) ?_ | refine br_f (by first | decide | assumption) ?_ | refine br_c (fun _ => ?_) (fun _ => ?_) | refine ⟨by decide, ?_⟩ | refine ⟨by first | assumption | (unfold vp_in; decide) | ((with_reducible (refine vp_in_nI ?_ ?_)) <;> omega), ?_⟩ | fail)
    refine X5_letterNow H X (by omega) ?_
    repeat' (first | (refine Rules.st H okX5_statement [49] ?_; (conv => whnf); try (show T _ _ _ [_, _] _ _)) | refine br_t (by first | decide | assumption) ?_ | refine br_f (by first | decide | assumption) ?_ | refine br_c (fun _ => ?_) (fun _ => ?_) | refine ⟨by decide, ?_⟩ | refine ⟨by first | assumption | (unfold vp_in; decide) | ((with_reducible (refine vp_in_nI ?_ ?_)) <;> omega), ?_⟩ | fail)
    all_goals first
      | exact Halt.mk h49
      | (exfalso; rcases cs with h | h | h | h | h | h | h <;> exact absurd h (by assumption))
set_option maxRecDepth 100000 in
theorem RdM.sc {S S' : Mem} {lt : Nat → Int32} {l p q : Nat} (X : RdM S lt l p) (F : ScM 0 S S') (h : S' 25 14 = nI q) : RdM S' lt l q := ⟨X.1, by rw [F.at (by unfold scrM; omega)]; exact X.2.1, fun j hj => by rw [F.at (by unfold scrM; omega)]; exact X.2.2.1 j hj, h⟩
set_option maxRecDepth 100000 in
theorem gN_pre {pre : List Nat} {p : Nat} {i : Nat} (h : i < pre.length) : gN (pre ++ [p]) i = gN pre i := by
  unfold gN
  rw [List.getD_eq_getElem?_getD, List.getD_eq_getElem?_getD, List.getElem?_append_left h]
set_option maxRecDepth 100000 in
theorem gN_last {pre : List Nat} {p : Nat} : gN (pre ++ [p]) pre.length = p := by
  unfold gN
  rw [List.getD_eq_getElem?_getD, List.getElem?_append_right (Nat.le_refl _)]
  simp
set_option maxRecDepth 100000 in
theorem lt_59 {lt : Nat → Int32} {l p : Nat} (h : ltA lt l p = 59) : p < l := by
  by_cases q : p < l
  · exact q
  · unfold ltA at h
    rw [if_neg q] at h
    exact absurd h (by decide)
set_option maxRecDepth 100000 in
theorem wis_n {lt : Nat → Int32} {l p : Nat} (h : wis lt l p = none) (hok : ∀ x, 1 ≤ x → x ≤ sgN (ltA lt l p) → okS lt l p x) (hs : ¬ sgN (ltA lt l p) = 0) : p + sgN (ltA lt l p) + 2 ≤ l := by
  rw [wis_ok hs hok] at h
  split at h
  · next q => have := lt_59 q; omega
  · cases h
set_option maxRecDepth 100000 in
theorem X5_cor_l (H : Rules C T) {lt : Nat → Int32} {l : Nat} (hl0 : 0 < l) {Q : Pst} : ∀ (f p k : Nat) (pre : List Nat) (S : Mem), RdM S lt l p → S 25 15 = nI k → pre.length = k → (∀ i, i < k → StM S i lt l (gN pre i)) → 3 * k ≤ p → p ≤ l → (0 < k ∨ p = 0) → l ≤ p + f → (∀ w, scn lt l f p = .inl w → ∀ S', S' 25 14 = nI w → ScM 0 S S' → T mX5_corridor Q 60 [some (.ref 25), some (.int 0), none] [] S') → (∀ q, scn lt l f p = .inr q → ∀ S', S' 25 15 = nI (k + q.length) → k + q.length ≤ 32 → (∀ i, i < k + q.length → StM S' i lt l (gN (pre ++ q) i)) → ScM 0 S S' → T mX5_corridor Q 60 [some (.ref 25), some (.int 1), none] [] S') → T mX5_corridor Q 12 [some (.ref 25), some (.int 1), none] [] S := by
  intro f
  induction f with
  | zero =>
    intro p k pre S X ek hk hst h3 hpl hkp hf h0 h1
    have hl := X.1
    have c1 : ¬ S 25 14 < S 25 13 := by rw [X.2.1, X.2.2.2]; exact Int32.not_lt.mpr (nI_le (by omega) (by omega))
    have c2 : ¬ S 25 15 = 0 := by rw [ek]; exact fun z => by have := (nI_eq (a := k) (b := 0) (by omega) (by omega)).mp z; omega
    have h1 := h1 [] rfl S ek (by simp; omega) (by simpa using hst) ScM.rf
    skip
    repeat' (first | (refine Rules.st H okX5_corridor [12, 60] ?_; (conv => whnf); try (show T _ _ _ [_, _, _] _ _)) | refine br_t (by first | decide | assumption) ?_ | refine br_f (by first | decide | assumption) ?_ | refine br_c (fun _ => ?_) (fun _ => ?_) | refine ⟨by decide, ?_⟩ | refine ⟨by first | assumption | (unfold vp_in; decide) | ((with_reducible (refine vp_in_nI ?_ ?_)) <;> omega), ?_⟩ | fail)
    exact Halt.mk h1
  | succ f ih =>
    intro p k pre S X ek hk hst h3 hpl hkp hf h0 h1
    have hl := X.1
    unfold scn at h0 h1
    by_cases hp : p < l
    · have c1 : S 25 14 < S 25 13 := by rw [X.2.1, X.2.2.2]; exact nI_lt (by omega) (by omega)
      rw [if_pos hp] at h0 h1
      skip
      repeat' (first | (refine Rules.st H okX5_corridor [12, 60] ?_; (conv => whnf); try (show T _ _ _ [_, _, _] _ _)) | refine br_t (by first | decide | assumption) ?_ | refine br_f (by first | decide | assumption) ?_ | refine br_c (fun _ => ?_) (fun _ => ?_) | refine ⟨by decide, ?_⟩ | refine ⟨by first | assumption | (unfold vp_in; decide) | ((with_reducible (refine vp_in_nI ?_ ?_)) <;> omega), ?_⟩ | fail)
      refine X5_statement H X hpl ek (by omega) (fun w ew S1 X1 F1 => ?_) (fun ew S1 X1 s1 F1 => ?_)
      · rw [ew] at h0
        have s1 := F1.sc
        have h0 := h0 w rfl (up S1 25 15 (S1 25 15 + 0)) (by rw [up_j (by omega)]; exact X1.2.2.2) (s1.tr (ScM.puts (a := 25) (j := 15) (v := S1 25 15 + 0) (by unfold scrM; omega) ScM.rf))
        repeat' (first | (refine Rules.st H okX5_corridor [12, 60] ?_; (conv => whnf); try (show T _ _ _ [_, _, _] _ _)) | refine br_t (by first | decide | assumption) ?_ | refine br_f (by first | decide | assumption) ?_ | refine br_c (fun _ => ?_) (fun _ => ?_) | refine ⟨by decide, ?_⟩ | refine ⟨by first | assumption | (unfold vp_in; decide) | ((with_reducible (refine vp_in_nI ?_ ?_)) <;> omega), ?_⟩ | fail)
        refine Halt.mk ?_
        skip
        repeat' (first | (refine Rules.st H okX5_corridor [60] ?_; (conv => whnf); try (show T _ _ _ [_, _, _] _ _)) | refine br_t (by first | decide | assumption) ?_ | refine br_f (by first | decide | assumption) ?_ | refine br_c (fun _ => ?_) (fun _ => ?_) | refine ⟨by decide, ?_⟩ | refine ⟨by first | assumption | (unfold vp_in; decide) | ((with_reducible (refine vp_in_nI ?_ ?_)) <;> omega), ?_⟩ | fail)
        exact Halt.mk h0
      · have hb := wis_n ew s1.2.2.2.1 s1.2.2.2.2
        have ek1 : S1 25 15 = nI k := by rw [F1 25 15 (by omega) (by omega) (by omega)]; exact ek
        rw [ew] at h0 h1
        have X2 : RdM (up S1 25 15 (S1 25 15 + 1)) lt l (p + sgN (ltA lt l p) + 2) := ⟨hl, by rw [up_j (by omega)]; exact X1.2.1, fun j hj => by rw [up_k (by omega)]; exact X1.2.2.1 j hj, by rw [up_j (by omega)]; exact X1.2.2.2⟩
        have ek2 : up S1 25 15 (S1 25 15 + 1) 25 15 = nI (k + 1) := by rw [up_at, ek1, nI_1]
        have st2 : ∀ i, i < k + 1 → StM (up S1 25 15 (S1 25 15 + 1)) i lt l (gN (pre ++ [p]) i) := fun i hi => by
          by_cases q : i < k
          · rw [gN_pre (by omega)]
            exact ((hst i q).fr F1 q).put
          · obtain rfl : i = k := by omega
            rw [← hk, gN_last, hk]
            exact s1.put
        have c2 : ScM 0 S (up S1 25 15 (S1 25 15 + 1)) := F1.sc.tr (ScM.puts (a := 25) (j := 15) (v := S1 25 15 + 1) (by unfold scrM; omega) ScM.rf)
        have sl : 1 ≤ sgN (ltA lt l p) := Nat.pos_of_ne_zero s1.2.2.2.2
        have key := ih (p + sgN (ltA lt l p) + 2) (k + 1) (pre ++ [p]) _ X2 ek2 (by simp; omega) st2 (by omega) hb (Or.inl (by omega)) (by omega) (fun w hw S' e' s' => h0 w (by rw [hw]) S' e' (c2.tr s')) (fun q hq S' e' l' st' s' => h1 (p :: q) (by rw [hq]) S' (by rw [e']; congr 1; simp; omega) (by simp; omega) (fun i hi => by
          have := st' i (by simp at hi; omega)
          rw [List.append_assoc] at this
          exact this) (c2.tr s'))
        skip
        repeat' (first | (refine Rules.st H okX5_corridor [12, 60] ?_; (conv => whnf); try (show T _ _ _ [_, _, _] _ _)) | refine br_t (by first | decide | assumption) ?_ | refine br_f (by first | decide | assumption) ?_ | refine br_c (fun _ => ?_) (fun _ => ?_) | refine ⟨by decide, ?_⟩ | refine ⟨by first | assumption | (unfold vp_in; decide) | ((with_reducible (refine vp_in_nI ?_ ?_)) <;> omega), ?_⟩ | fail)
        exact Halt.mk key
    · obtain rfl : p = l := by omega
      have c1 : ¬ S 25 14 < S 25 13 := by rw [X.2.1, X.2.2.2]; exact Int32.not_lt.mpr (nI_le (by omega) (by omega))
      have c2 : ¬ S 25 15 = 0 := by rw [ek]; exact fun z => by have := (nI_eq (a := k) (b := 0) (by omega) (by omega)).mp z; omega
      rw [if_neg hp] at h1
      have h1 := h1 [] rfl S ek (by simp; omega) (by simpa using hst) ScM.rf
      skip
      repeat' (first | (refine Rules.st H okX5_corridor [12, 60] ?_; (conv => whnf); try (show T _ _ _ [_, _, _] _ _)) | refine br_t (by first | decide | assumption) ?_ | refine br_f (by first | decide | assumption) ?_ | refine br_c (fun _ => ?_) (fun _ => ?_) | refine ⟨by decide, ?_⟩ | refine ⟨by first | assumption | (unfold vp_in; decide) | ((with_reducible (refine vp_in_nI ?_ ?_)) <;> omega), ?_⟩ | fail)
      exact Halt.mk h1
end M42
