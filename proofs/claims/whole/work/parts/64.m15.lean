section M15
variable {C : Cst} {T : Nat → Pst → Nat → Lcs → List Value → Mem → Prop}
set_option maxRecDepth 100000 in
theorem X5_nextOut_l (H : Rules C T) {S K : Mem} {d : Int32} {r q : Nat} (R : RepM S K d) (hr : r < 8) (hq : q ≤ 999) {x : Int32} {Q : Pst} : ∀ (k i : Nat), i + k = 61 → Q (some (.int (nextK K r (nI q) k i))) S → T mX5_nextOut Q 30 [some (.ref 25), some (.int (nI r)), some (.int (nI q)), some (.int x), some (.int (nI (q + i)))] [] S := by
  have e60 : nI q + 60 = nI (q + 60) := nI_add q 60
  intro k
  induction k with
  | zero =>
    intro i hi h1
    have hge : nI q + 60 < nI (q + i) := by rw [e60]; exact nI_lt (by omega) (by omega)
    skip
    repeat' (first | (refine Rules.st H okX5_nextOut [30] ?_; conv => whnf) | refine br_t (by first | decide | assumption) ?_ | refine br_f (by first | decide | assumption) ?_ | refine br_c (fun _ => ?_) (fun _ => ?_) | refine ⟨by decide, ?_⟩ | refine ⟨by first | assumption | (unfold vp_in; decide) | ((with_reducible (refine vp_in_nI ?_ ?_)) <;> omega), ?_⟩ | fail)
    exact h1
  | succ k ih =>
    intro i hi h1
    have hge : ¬ nI q + 60 < nI (q + i) := by rw [e60]; exact nI_nlt (by omega) (by omega)
    have ei : nI q + nI i = nI (q + i) := nI_add q i
    unfold nextK at h1
    rw [ei] at h1
    skip
    repeat' (first | (refine Rules.st H okX5_nextOut [30] ?_; conv => whnf) | refine br_t (by first | decide | assumption) ?_ | refine br_f (by first | decide | assumption) ?_ | refine br_c (fun _ => ?_) (fun _ => ?_) | refine ⟨by decide, ?_⟩ | refine ⟨by first | assumption | (unfold vp_in; decide) | ((with_reducible (refine vp_in_nI ?_ ?_)) <;> omega), ?_⟩ | fail)
    refine X5_isOut H R hr (fun g => ?_) (fun g => ?_)
    · rw [if_pos g] at h1
      repeat' (first | (refine Rules.st H okX5_nextOut [30] ?_; conv => whnf) | refine br_t (by first | decide | assumption) ?_ | refine br_f (by first | decide | assumption) ?_ | refine br_c (fun _ => ?_) (fun _ => ?_) | refine ⟨by decide, ?_⟩ | refine ⟨by first | assumption | (unfold vp_in; decide) | ((with_reducible (refine vp_in_nI ?_ ?_)) <;> omega), ?_⟩ | fail)
      exact h1
    · rw [if_neg (by rw [g]; decide)] at h1
      repeat' (first | (refine Rules.st H okX5_nextOut [30] ?_; conv => whnf) | refine br_t (by first | decide | assumption) ?_ | refine br_f (by first | decide | assumption) ?_ | refine br_c (fun _ => ?_) (fun _ => ?_) | refine ⟨by decide, ?_⟩ | refine ⟨by first | assumption | (unfold vp_in; decide) | ((with_reducible (refine vp_in_nI ?_ ?_)) <;> omega), ?_⟩ | fail)
      refine Halt.mk ?_
      show T mX5_nextOut Q 30 [some (.ref 25), some (.int (nI r)), some (.int (nI q)), some (.int x), some (.int (nI (q + i) + 1))] [] S
      rw [nI_1]
      exact ih (i + 1) (by omega) h1
set_option maxRecDepth 100000 in
theorem X5_nextOut (H : Rules C T) {S K : Mem} {n : Nat} (X : XM S K n) {r t : Int32} {Q : Pst} (h1 : AnsM S (F_nextOut K n r t) Q) : C mX5_nextOut [.ref 25, .int r, .int t] S Q := by
  obtain ⟨⟨d, R⟩, g, hz⟩ := X
  have hn8 := g.2.1
  unfold F_nextOut at h1
  refine Rules.go H (by decide) (Nat.le_of_ble_eq_true rfl) ?_
  repeat' (first | (refine Rules.st H okX5_nextOut [30] ?_; conv => whnf) | refine br_t (by first | decide | assumption) ?_ | refine br_f (by first | decide | assumption) ?_ | refine br_c (fun _ => ?_) (fun _ => ?_) | refine ⟨by decide, ?_⟩ | refine ⟨by first | assumption | (unfold vp_in; decide) | ((with_reducible (refine vp_in_nI ?_ ?_)) <;> omega), ?_⟩ | fail)
  refine X5_isRoom H (R.rm.trans g.1) hn8 (fun i hi e => ?_) (fun hno => ?_)
  · subst e
    have em : minF n (nI i) t = if t < 0 then -4 else if 999 < t then -6 else 0 := if_pos (okR_nI hn8 hi)
    repeat' (first | (refine Rules.st H okX5_nextOut [30] ?_; conv => whnf) | refine br_t (by first | decide | assumption) ?_ | refine br_f (by first | decide | assumption) ?_ | refine br_c (fun _ => ?_) (fun _ => ?_) | refine ⟨by decide, ?_⟩ | refine ⟨by first | assumption | (unfold vp_in; decide) | ((with_reducible (refine vp_in_nI ?_ ?_)) <;> omega), ?_⟩ | fail)
    refine X5_minuteWhy H ?_
    rw [← em]
    by_cases q : minF n (nI i) t = 0
    · rw [if_pos q, show ix (nI i) = i from nIc (by omega)] at h1
      have ht : ∃ z, z ≤ 999 ∧ t = nI z := by
        rw [em] at q
        by_cases q1 : t < 0
        · rw [if_pos q1] at q; exact absurd q (by decide)
        · rw [if_neg q1] at q
          by_cases q2 : 999 < t
          · rw [if_pos q2] at q; exact absurd q (by decide)
          · obtain ⟨j, hj, e⟩ := nI_of q1
            have q3 : nI j ≤ nI 999 := by rw [← e]; exact Int32.not_lt.mp q2
            exact ⟨j, (nI_leI hj (by omega)).mp q3, e⟩
      obtain ⟨z, hz9, rfl⟩ := ht
      rw [q]
      repeat' (first | (refine Rules.st H okX5_nextOut [30] ?_; conv => whnf) | refine br_t (by first | decide | assumption) ?_ | refine br_f (by first | decide | assumption) ?_ | refine br_c (fun _ => ?_) (fun _ => ?_) | refine ⟨by decide, ?_⟩ | refine ⟨by first | assumption | (unfold vp_in; decide) | ((with_reducible (refine vp_in_nI ?_ ?_)) <;> omega), ?_⟩ | fail)
      exact Halt.mk (X5_nextOut_l H R (by omega) hz9 61 0 rfl (h1 S ScM.rf))
    · rw [if_neg q] at h1
      obtain ⟨k1, k2, k3⟩ := minF_k.resolve_left q
      repeat' (first | (refine Rules.st H okX5_nextOut [30] ?_; conv => whnf) | refine br_t (by first | decide | assumption) ?_ | refine br_f (by first | decide | assumption) ?_ | refine br_c (fun _ => ?_) (fun _ => ?_) | refine ⟨by decide, ?_⟩ | refine ⟨by first | assumption | (unfold vp_in; decide) | ((with_reducible (refine vp_in_nI ?_ ?_)) <;> omega), ?_⟩ | fail)
      refine X5_no H ScM.rf (by omega) k1 (by rw [← k3]; exact Int32.zero_sub _) (fun S' hS' => ?_)
      repeat' (first | (refine Rules.st H okX5_nextOut [30] ?_; conv => whnf) | refine br_t (by first | decide | assumption) ?_ | refine br_f (by first | decide | assumption) ?_ | refine br_c (fun _ => ?_) (fun _ => ?_) | refine ⟨by decide, ?_⟩ | refine ⟨by first | assumption | (unfold vp_in; decide) | ((with_reducible (refine vp_in_nI ?_ ?_)) <;> omega), ?_⟩ | fail)
      exact h1 S' hS'
  · have em : minF n r t = -1 := if_neg (okR_neg hn8 hno)
    rw [em, if_neg (by decide)] at h1
    repeat' (first | (refine Rules.st H okX5_nextOut [30] ?_; conv => whnf) | refine br_t (by first | decide | assumption) ?_ | refine br_f (by first | decide | assumption) ?_ | refine br_c (fun _ => ?_) (fun _ => ?_) | refine ⟨by decide, ?_⟩ | refine ⟨by first | assumption | (unfold vp_in; decide) | ((with_reducible (refine vp_in_nI ?_ ?_)) <;> omega), ?_⟩ | fail)
    refine X5_no H ScM.rf (k := 1) (by omega) (by omega) (by decide) (fun S' hS' => ?_)
    repeat' (first | (refine Rules.st H okX5_nextOut [30] ?_; conv => whnf) | refine br_t (by first | decide | assumption) ?_ | refine br_f (by first | decide | assumption) ?_ | refine br_c (fun _ => ?_) (fun _ => ?_) | refine ⟨by decide, ?_⟩ | refine ⟨by first | assumption | (unfold vp_in; decide) | ((with_reducible (refine vp_in_nI ?_ ?_)) <;> omega), ?_⟩ | fail)
    exact h1 S' hS'
end M15
