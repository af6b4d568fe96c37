section M13
variable {C : Cst} {T : Nat → Pst → Nat → Lcs → List Value → Mem → Prop}
set_option maxRecDepth 100000 in
theorem abs_0 : ∀ p, p < 9 → absI (nI p - nI 0) = nI p := by decide
set_option maxRecDepth 100000 in
theorem downK_5 {K : Mem} {m : Nat} (h : isPl (K 3 m)) : downK K m 5 m = K 5 m + (K 3 m + 2) := by
  obtain ⟨p, hp, e⟩ := h
  unfold downK walkK passK
  rw [up_k (by omega), up_at, up_k (by omega), up_at, e, abs_0 p hp, Int32.add_assoc]
set_option maxRecDepth 100000 in
theorem downK_eq {K : Mem} {m : Nat} (h : isPl (K 3 m)) : up (up (up K 5 m (K 5 m + (K 3 m + 2))) 3 m 0) 4 m 6 = downK K m := by
  funext a j
  by_cases q5 : a = 5 ∧ j = m
  · rw [q5.1, q5.2, downK_5 h, up_k (by omega), up_k (by omega), up_at]
  · unfold downK walkK passK up
    by_cases q4 : a = 4 ∧ j = m
    · rw [if_pos q4, if_pos q4]
    · rw [if_neg q4, if_neg q4, if_neg q5]
      by_cases q3 : a = 3 ∧ j = m
      · rw [if_pos q3, if_neg q5, if_pos q3]
        rfl
      · rw [if_neg q3, if_neg q5, if_neg q5, if_neg q3]
set_option maxRecDepth 100000 in
theorem downK_s (K : Mem) (m : Nat) : downK K m 0 3 = K 0 3 := by
  unfold downK
  rw [up_k (by omega), passK_s, walkK_s]
set_option maxRecDepth 100000 in
theorem X5_goesDown (H : Rules C T) {S K : Mem} {d : Int32} {n m : Nat} (hm : m < 2) (R : RepM S K d) (g : Gd K n) {Q : Pst} (h1 : ∀ S', RepM S' (downK K m) d → FrM S S' → Q none S') : C mX5_goesDown [.ref 25, .int (nI m)] S Q := by
  have cm : (nI m).toNatClampNeg = m := nIc (by omega)
  have key : Q none (up (up (up S 33 (nI m).toNatClampNeg (S 33 (nI m).toNatClampNeg + (S 31 (nI m).toNatClampNeg + 2))) 31 (nI m).toNatClampNeg 0) 32 (nI m).toNatClampNeg 6) := by
    rw [cm, R.ck hm, R.at hm]
    refine h1 _ ?_ (((FrM.put (by unfold inM; omega)).tr (FrM.put (by unfold inM; omega))).tr (FrM.put (by unfold inM; omega)))
    rw [← downK_eq (g.pl hm)]
    exact ((R.put3 (o := 5) (by omega) (by omega)).put3 (o := 3) (by omega) (by omega)).put3 (o := 4) (by omega) (by omega)
  refine Rules.go H (by decide) (Nat.le_of_ble_eq_true rfl) ?_
  repeat' (first | (refine Rules.st H okX5_goesDown [] ?_; conv => whnf) | refine br_t (by first | decide | assumption) ?_ | refine br_f (by first | decide | assumption) ?_ | refine br_c (fun _ => ?_) (fun _ => ?_) | refine ⟨by decide, ?_⟩ | refine ⟨by first | assumption | (unfold vp_in; decide) | ((with_reducible (refine vp_in_nI ?_ ?_)) <;> omega), ?_⟩ | fail)
  exact key
set_option maxRecDepth 100000 in
theorem X5_down (H : Rules C T) {S K : Mem} {n : Nat} (X : XM S K n) {m : Int32} {Q : Pst} (h1 : AnsMY S (F_down K m).1 (F_down K m).2 Q) : C mX5_down [.ref 25, .int m] S Q := by
  obtain ⟨⟨d, R⟩, g, hz⟩ := X
  unfold F_down at h1
  refine Rules.go H (by decide) (Nat.le_of_ble_eq_true rfl) ?_
  repeat' (first | (refine Rules.st H okX5_down [] ?_; conv => whnf) | refine br_t (by first | decide | assumption) ?_ | refine br_f (by first | decide | assumption) ?_ | refine br_c (fun _ => ?_) (fun _ => ?_) | refine ⟨by decide, ?_⟩ | refine ⟨by first | assumption | (unfold vp_in; decide) | ((with_reducible (refine vp_in_nI ?_ ?_)) <;> omega), ?_⟩ | fail)
  refine X5_isMaid H (fun i hi e => ?_) (fun hno => ?_)
  · subst e
    have cr : (nI i).toNatClampNeg = i := nIc (by omega)
    have e33 : S 33 (nI i).toNatClampNeg = K 5 i := by rw [cr]; exact R.ck hi
    have e31 : S 31 (nI i).toNatClampNeg = K 3 i := by rw [cr]; exact R.at hi
    rw [if_pos (okM_nI hi), show ix (nI i) = i from cr, downK_5 (g.pl hi)] at h1
    by_cases q : 999 < K 5 i + (K 3 i + 2)
    · rw [if_pos q] at h1
      have q2 : ¬ S 33 (nI i).toNatClampNeg + (S 31 (nI i).toNatClampNeg + 2) ≤ 999 := by rw [e33, e31]; exact Int32.not_le.mpr q
      repeat' (first | (refine Rules.st H okX5_down [] ?_; conv => whnf) | refine br_t (by first | decide | assumption) ?_ | refine br_f (by first | decide | assumption) ?_ | refine br_c (fun _ => ?_) (fun _ => ?_) | refine ⟨by decide, ?_⟩ | refine ⟨by first | assumption | (unfold vp_in; decide) | ((with_reducible (refine vp_in_nI ?_ ?_)) <;> omega), ?_⟩ | fail)
      refine X5_no H ScM.rf (k := 6) (by omega) (by omega) (by decide) (fun S' hS' => ?_)
      repeat' (first | (refine Rules.st H okX5_down [] ?_; conv => whnf) | refine br_t (by first | decide | assumption) ?_ | refine br_f (by first | decide | assumption) ?_ | refine br_c (fun _ => ?_) (fun _ => ?_) | refine ⟨by decide, ?_⟩ | refine ⟨by first | assumption | (unfold vp_in; decide) | ((with_reducible (refine vp_in_nI ?_ ?_)) <;> omega), ?_⟩ | fail)
      exact h1 S' (hS'.rep R) hS'.y
    · rw [if_neg q] at h1
      have q2 : S 33 (nI i).toNatClampNeg + (S 31 (nI i).toNatClampNeg + 2) ≤ 999 := by rw [e33, e31]; exact Int32.not_lt.mp q
      repeat' (first | (refine Rules.st H okX5_down [] ?_; conv => whnf) | refine br_t (by first | decide | assumption) ?_ | refine br_f (by first | decide | assumption) ?_ | refine br_c (fun _ => ?_) (fun _ => ?_) | refine ⟨by decide, ?_⟩ | refine ⟨by first | assumption | (unfold vp_in; decide) | ((with_reducible (refine vp_in_nI ?_ ?_)) <;> omega), ?_⟩ | fail)
      refine X5_goesDown H hi R g (fun S1 R1 F1 => ?_)
      repeat' (first | (refine Rules.st H okX5_down [] ?_; conv => whnf) | refine br_t (by first | decide | assumption) ?_ | refine br_f (by first | decide | assumption) ?_ | refine br_c (fun _ => ?_) (fun _ => ?_) | refine ⟨by decide, ?_⟩ | refine ⟨by first | assumption | (unfold vp_in; decide) | ((with_reducible (refine vp_in_nI ?_ ?_)) <;> omega), ?_⟩ | fail)
      rw [e31]
      have h1 := h1 S1 (R1.fresh (by rw [downK_s]; exact hz.1)) (ScMY.fr F1)
      rw [show K 5 i + (K 3 i + 2) - K 5 i = K 3 i + 2 from by rw [Int32.add_comm, Int32.add_sub_cancel]] at h1
      exact h1
  · rw [if_neg (okM_neg hno)] at h1
    repeat' (first | (refine Rules.st H okX5_down [] ?_; conv => whnf) | refine br_t (by first | decide | assumption) ?_ | refine br_f (by first | decide | assumption) ?_ | refine br_c (fun _ => ?_) (fun _ => ?_) | refine ⟨by decide, ?_⟩ | refine ⟨by first | assumption | (unfold vp_in; decide) | ((with_reducible (refine vp_in_nI ?_ ?_)) <;> omega), ?_⟩ | fail)
    refine X5_no H ScM.rf (k := 1) (by omega) (by omega) (by decide) (fun S' hS' => ?_)
    repeat' (first | (refine Rules.st H okX5_down [] ?_; conv => whnf) | refine br_t (by first | decide | assumption) ?_ | refine br_f (by first | decide | assumption) ?_ | refine br_c (fun _ => ?_) (fun _ => ?_) | refine ⟨by decide, ?_⟩ | refine ⟨by first | assumption | (unfold vp_in; decide) | ((with_reducible (refine vp_in_nI ?_ ?_)) <;> omega), ?_⟩ | fail)
    exact h1 S' (hS'.rep R) hS'.y
end M13
