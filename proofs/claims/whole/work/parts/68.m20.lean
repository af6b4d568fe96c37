section M20
variable {C : Cst} {T : Nat → Pst → Nat → Lcs → List Value → Mem → Prop}
set_option maxRecDepth 100000 in
theorem RepM.of {Sk S1 Kk : Mem} {dk : Int32} (R : RepM Sk Kk dk) (h : ∀ a j, inP a j → S1 a j = Sk a j) (h21 : S1 25 21 = Kk 0 3) : ∃ d, RepM S1 Kk d := ⟨S1 25 22 - Kk 0 4, fun a j hi => by
  by_cases q : inP a j
  · rw [h a j q, R a j hi]
    unfold inP at q
    rcases q with ⟨rfl, rfl⟩ | ⟨rfl | rfl | rfl | rfl, hb⟩ | ⟨hb, hj⟩
    · rw [mv25, mv25, if_pos rfl, if_pos rfl]
    · rw [mv27, mv27]
    · rw [mv28, mv28]
    · rw [mv29, mv29]
    · rw [mv30, mv30]
    · rw [mv31 _ _ _ (by omega), mv31 _ _ _ (by omega)]
  · have z : (a = 25 ∧ j = 21) ∨ (a = 25 ∧ j = 22) := by unfold inP at q; unfold inM at hi; omega
    rcases z with ⟨rfl, rfl⟩ | ⟨rfl, rfl⟩
    · rw [mv25, if_neg (by omega), if_pos rfl, h21]
    · rw [mv25, if_neg (by omega), if_neg (by omega), Int32.sub_add_cancel]⟩
set_option maxRecDepth 100000 in
theorem X5_on (H : Rules C T) {S Sk Kk : Mem} {n : Nat} {dk : Int32} (k0 : KeptM 0 S Sk) (Rk : RepM Sk Kk dk) (g : Gd Kk n) (hz : KZ Kk) (h21 : S 25 21 = 0) {Q : Pst} (h0 : S 25 18 = 0 → AnsM S (3, -3) Q) (h1 : ¬ S 25 18 = 0 → ∀ S', (∃ d, RepM S' Kk d) → ScMY 0 S S' → Q (some (.int (pcI (Kk 0 1)))) S') : C mX5_on [.ref 25] S Q := by
  by_cases q : S 25 18 = 0
  · refine Rules.go H (by decide) (Nat.le_of_ble_eq_true rfl) ?_
    repeat' (first | (refine Rules.st H okX5_on [] ?_; conv => whnf) | refine br_t (by first | decide | assumption) ?_ | refine br_f (by first | decide | assumption) ?_ | refine br_c (fun _ => ?_) (fun _ => ?_) | refine ⟨by decide, ?_⟩ | refine ⟨by first | assumption | (unfold vp_in; decide) | ((with_reducible (refine vp_in_nI ?_ ?_)) <;> omega), ?_⟩ | fail)
    refine X5_no H ScM.rf (k := 3) (by omega) (by omega) (by decide) (fun S' hS' => ?_)
    repeat' (first | (refine Rules.st H okX5_on [] ?_; conv => whnf) | refine br_t (by first | decide | assumption) ?_ | refine br_f (by first | decide | assumption) ?_ | refine br_c (fun _ => ?_) (fun _ => ?_) | refine ⟨by decide, ?_⟩ | refine ⟨by first | assumption | (unfold vp_in; decide) | ((with_reducible (refine vp_in_nI ?_ ?_)) <;> omega), ?_⟩ | fail)
    exact h0 q S' hS'
  · refine Rules.go H (by decide) (Nat.le_of_ble_eq_true rfl) ?_
    repeat' (first | (refine Rules.st H okX5_on [] ?_; conv => whnf) | refine br_t (by first | decide | assumption) ?_ | refine br_f (by first | decide | assumption) ?_ | refine br_c (fun _ => ?_) (fun _ => ?_) | refine ⟨by decide, ?_⟩ | refine ⟨by first | assumption | (unfold vp_in; decide) | ((with_reducible (refine vp_in_nI ?_ ?_)) <;> omega), ?_⟩ | fail)
    refine X5_passesAll_B H (w := 0) (by omega) k0 (fun S1 b1 b2 => ?_)
    obtain ⟨d, R1⟩ := Rk.of b1 (by rw [b2 25 21 (by unfold inP; omega) (by omega), h21, hz.1])
    repeat' (first | (refine Rules.st H okX5_on [] ?_; conv => whnf) | refine br_t (by first | decide | assumption) ?_ | refine br_f (by first | decide | assumption) ?_ | refine br_c (fun _ => ?_) (fun _ => ?_) | refine ⟨by decide, ?_⟩ | refine ⟨by first | assumption | (unfold vp_in; decide) | ((with_reducible (refine vp_in_nI ?_ ?_)) <;> omega), ?_⟩ | fail)
    refine X5_manyDone H R1 g ?_
    repeat' (first | (refine Rules.st H okX5_on [] ?_; conv => whnf) | refine br_t (by first | decide | assumption) ?_ | refine br_f (by first | decide | assumption) ?_ | refine br_c (fun _ => ?_) (fun _ => ?_) | refine ⟨by decide, ?_⟩ | refine ⟨by first | assumption | (unfold vp_in; decide) | ((with_reducible (refine vp_in_nI ?_ ?_)) <;> omega), ?_⟩ | fail)
    refine h1 q S1 ⟨d, R1⟩ (fun a j hs hi => ?_)
    rw [if_neg (fun z => z.2.2 rfl)]
    exact b2 a j (by unfold inP; unfold inM at hi; omega) (by unfold scrM at hs; omega)
end M20
