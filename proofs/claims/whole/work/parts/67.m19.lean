section M19
variable {C : Cst} {T : Nat → Pst → Nat → Lcs → List Value → Mem → Prop}
set_option maxRecDepth 100000 in
theorem X5_image (H : Rules C T) {S K : Mem} {n : Nat} (X : XM S K n) {Q : Pst} (h1 : ∀ S', KeptM 0 S' S → S' 25 18 = 1 → (∀ a j, ¬ (a = 25 ∧ (j = 18 ∨ j = 19 ∨ j = 20)) → ¬ (a = 38 ∧ j < 39) → S' a j = S a j) → Q (some (.int (pcI (K 0 1)))) S') : C mX5_image [.ref 25] S Q := by
  obtain ⟨⟨d, R⟩, g, hz⟩ := X
  refine Rules.go H (by decide) (Nat.le_of_ble_eq_true rfl) ?_
  repeat' (first | (refine Rules.st H okX5_image [] ?_; conv => whnf) | refine br_t (by first | decide | assumption) ?_ | refine br_f (by first | decide | assumption) ?_ | refine br_c (fun _ => ?_) (fun _ => ?_) | refine ⟨by decide, ?_⟩ | refine ⟨by first | assumption | (unfold vp_in; decide) | ((with_reducible (refine vp_in_nI ?_ ?_)) <;> omega), ?_⟩ | fail)
  refine X5_passesAll_K H (w := 0) (by omega) (fun S1 k1 f1 => ?_)
  have R1 : RepM S1 K d := (R.o (a := 25) (j := 18) (v := 1) (by unfold inM; omega)).frP f1
  repeat' (first | (refine Rules.st H okX5_image [] ?_; conv => whnf) | refine br_t (by first | decide | assumption) ?_ | refine br_f (by first | decide | assumption) ?_ | refine br_c (fun _ => ?_) (fun _ => ?_) | refine ⟨by decide, ?_⟩ | refine ⟨by first | assumption | (unfold vp_in; decide) | ((with_reducible (refine vp_in_nI ?_ ?_)) <;> omega), ?_⟩ | fail)
  refine X5_manyDone H R1 g ?_
  repeat' (first | (refine Rules.st H okX5_image [] ?_; conv => whnf) | refine br_t (by first | decide | assumption) ?_ | refine br_f (by first | decide | assumption) ?_ | refine br_c (fun _ => ?_) (fun _ => ?_) | refine ⟨by decide, ?_⟩ | refine ⟨by first | assumption | (unfold vp_in; decide) | ((with_reducible (refine vp_in_nI ?_ ?_)) <;> omega), ?_⟩ | fail)
  refine h1 S1 (fun j hj => ?_) ?_ (fun a j q1 q2 => ?_)
  · rw [k1 j hj]
    have := kp_in j hj
    unfold up
    rw [if_neg (fun z => by rw [z.1, z.2] at this; unfold inP at this; omega)]
  · rw [f1 25 18 (by omega) (by omega), up_at]
  · rw [f1 a j (by omega) (by omega)]
    unfold up
    rw [if_neg (by omega)]
end M19
