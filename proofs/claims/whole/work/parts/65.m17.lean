section M17
variable {C : Cst} {T : Nat → Pst → Nat → Lcs → List Value → Mem → Prop}
/-- the row in mind, as the reference has it -/
def XRM (S : Mem) (row : Nat → Int32) (q : Nat) : Prop := S 25 25 = nI q ∧ q ≤ 16 ∧ ∀ j, j < 16 → S 39 j = row j
set_option maxRecDepth 100000 in
theorem X5_clear (H : Rules C T) {S : Mem} {row : Nat → Int32} {q : Nat} (XQ : XRM S row q) {Q : Pst} (h1 : Q (some (.int (nI q))) (up S 25 25 0)) : C mX5_clear [.ref 25] S Q := by
  rw [← XQ.1] at h1
  refine Rules.go H (by decide) (Nat.le_of_ble_eq_true rfl) ?_
  repeat' (first | (refine Rules.st H okX5_clear [] ?_; conv => whnf) | refine br_t (by first | decide | assumption) ?_ | refine br_f (by first | decide | assumption) ?_ | refine br_c (fun _ => ?_) (fun _ => ?_) | refine ⟨by decide, ?_⟩ | refine ⟨by first | assumption | (unfold vp_in; decide) | ((with_reducible (refine vp_in_nI ?_ ?_)) <;> omega), ?_⟩ | fail)
  exact h1
set_option maxRecDepth 100000 in
theorem X5_row (H : Rules C T) {S : Mem} {row : Nat → Int32} {q : Nat} (XQ : XRM S row q) {v : Int32} {Q : Pst} (hb : v < 0 → AnsM S (4, -4) Q) (ha : ¬ v < 0 → (99 < v ∨ q = 16) → AnsM S (6, -6) Q) (h1 : ¬ v < 0 → ¬ 99 < v → q < 16 → Q (some (.int (nI (q + 1)))) (up (up S 39 q v) 25 25 (nI (q + 1)))) : C mX5_row [.ref 25, .int v] S Q := by
  obtain ⟨e, hq, _⟩ := XQ
  refine Rules.go H (by decide) (Nat.le_of_ble_eq_true rfl) ?_
  repeat' (first | (refine Rules.st H okX5_row [] ?_; conv => whnf) | refine br_t (by first | decide | assumption) ?_ | refine br_f (by first | decide | assumption) ?_ | refine br_c (fun _ => ?_) (fun _ => ?_) | refine ⟨by decide, ?_⟩ | refine ⟨by first | assumption | (unfold vp_in; decide) | ((with_reducible (refine vp_in_nI ?_ ?_)) <;> omega), ?_⟩ | fail)
  refine X5_bound H (fun q3 => ?_) (fun q3 q4 => ?_) (fun q3 q4 => ?_)
  · repeat' (first | (refine Rules.st H okX5_row [] ?_; conv => whnf) | refine br_t (by first | decide | assumption) ?_ | refine br_f (by first | decide | assumption) ?_ | refine br_c (fun _ => ?_) (fun _ => ?_) | refine ⟨by decide, ?_⟩ | refine ⟨by first | assumption | (unfold vp_in; decide) | ((with_reducible (refine vp_in_nI ?_ ?_)) <;> omega), ?_⟩ | fail)
    refine X5_no H ScM.rf (k := 4) (by omega) (by omega) (by decide) (fun S' hS' => ?_)
    repeat' (first | (refine Rules.st H okX5_row [] ?_; conv => whnf) | refine br_t (by first | decide | assumption) ?_ | refine br_f (by first | decide | assumption) ?_ | refine br_c (fun _ => ?_) (fun _ => ?_) | refine ⟨by decide, ?_⟩ | refine ⟨by first | assumption | (unfold vp_in; decide) | ((with_reducible (refine vp_in_nI ?_ ?_)) <;> omega), ?_⟩ | fail)
    exact hb q3 S' hS'
  · repeat' (first | (refine Rules.st H okX5_row [] ?_; conv => whnf) | refine br_t (by first | decide | assumption) ?_ | refine br_f (by first | decide | assumption) ?_ | refine br_c (fun _ => ?_) (fun _ => ?_) | refine ⟨by decide, ?_⟩ | refine ⟨by first | assumption | (unfold vp_in; decide) | ((with_reducible (refine vp_in_nI ?_ ?_)) <;> omega), ?_⟩ | fail)
    refine X5_no H ScM.rf (k := 6) (by omega) (by omega) (by decide) (fun S' hS' => ?_)
    repeat' (first | (refine Rules.st H okX5_row [] ?_; conv => whnf) | refine br_t (by first | decide | assumption) ?_ | refine br_f (by first | decide | assumption) ?_ | refine br_c (fun _ => ?_) (fun _ => ?_) | refine ⟨by decide, ?_⟩ | refine ⟨by first | assumption | (unfold vp_in; decide) | ((with_reducible (refine vp_in_nI ?_ ?_)) <;> omega), ?_⟩ | fail)
    exact ha q3 (Or.inl q4) S' hS'
  · by_cases g : q = 16
    · have g2 : S 25 25 = 16 := by rw [e, g]; rfl
      repeat' (first | (refine Rules.st H okX5_row [] ?_; conv => whnf) | refine br_t (by first | decide | assumption) ?_ | refine br_f (by first | decide | assumption) ?_ | refine br_c (fun _ => ?_) (fun _ => ?_) | refine ⟨by decide, ?_⟩ | refine ⟨by first | assumption | (unfold vp_in; decide) | ((with_reducible (refine vp_in_nI ?_ ?_)) <;> omega), ?_⟩ | fail)
      refine X5_no H ScM.rf (k := 6) (by omega) (by omega) (by decide) (fun S' hS' => ?_)
      repeat' (first | (refine Rules.st H okX5_row [] ?_; conv => whnf) | refine br_t (by first | decide | assumption) ?_ | refine br_f (by first | decide | assumption) ?_ | refine br_c (fun _ => ?_) (fun _ => ?_) | refine ⟨by decide, ?_⟩ | refine ⟨by first | assumption | (unfold vp_in; decide) | ((with_reducible (refine vp_in_nI ?_ ?_)) <;> omega), ?_⟩ | fail)
      exact ha q3 (Or.inr g) S' hS'
    · have g2 : ¬ S 25 25 = 16 := by rw [e, li16, nI_eq (by omega) (by omega)]; exact g
      have hv : vp_in (S 25 25) 16 := by rw [e]; exact vp_in_nI (by omega) (by omega)
      have h1 := h1 q3 q4 (by omega)
      rw [← nI_1, ← e, show q = (S 25 25).toNatClampNeg from by rw [e]; exact (nIc (by omega)).symm] at h1
      repeat' (first | (refine Rules.st H okX5_row [] ?_; conv => whnf) | refine br_t (by first | decide | assumption) ?_ | refine br_f (by first | decide | assumption) ?_ | refine br_c (fun _ => ?_) (fun _ => ?_) | refine ⟨by decide, ?_⟩ | refine ⟨by first | assumption | (unfold vp_in; decide) | ((with_reducible (refine vp_in_nI ?_ ?_)) <;> omega), ?_⟩ | fail)
      exact h1
end M17
