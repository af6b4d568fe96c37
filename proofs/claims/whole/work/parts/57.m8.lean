section M8
variable {C : Cst} {T : Nat → Pst → Nat → Lcs → List Value → Mem → Prop}
set_option maxRecDepth 100000 in
theorem lt_7 (x : Int32) : x < 7 ↔ x ≤ 6 := by
  rw [Int32.lt_iff_toInt_lt, Int32.le_iff_toInt_le, show (7 : Int32).toInt = 7 from rfl, show (6 : Int32).toInt = 6 from rfl]
  omega
set_option maxRecDepth 100000 in
theorem RepM.put1 {S K : Mem} {d : Int32} {o j : Nat} {v : Int32} (h : RepM S K d) (h1 : o = 1 ∨ o = 2) : RepM (up S (26 + o) j v) (up K o j v) d := h.put (fun b i hb => by
  unfold inM at hb
  rcases hb with ⟨rfl, hb⟩ | ⟨rfl | rfl | rfl | rfl, hb⟩ | ⟨hb, hj⟩
  · rw [mv25, mv25, if_neg (show ¬ (25 = 26 + o ∧ i = j) by omega), up_k (by omega), up_k (by omega), up_k (by omega)]
  · rw [mv27, mv27]
    unfold up
    rcases h1 with rfl | rfl
    · by_cases q : i = j
      · rw [if_pos ⟨rfl, q⟩, if_pos ⟨rfl, q⟩]
      · rw [if_neg (fun z => q z.2), if_neg (fun z => q z.2)]
    · rw [if_neg (by omega), if_neg (by omega)]
  · rw [mv28, mv28]
    unfold up
    rcases h1 with rfl | rfl
    · rw [if_neg (by omega), if_neg (by omega)]
    · by_cases q : i = j
      · rw [if_pos ⟨rfl, q⟩, if_pos ⟨rfl, q⟩]
      · rw [if_neg (fun z => q z.2), if_neg (fun z => q z.2)]
  · rw [mv29, mv29, if_neg (by omega), up_k (by omega)]
  · rw [mv30, mv30, if_neg (by omega), up_k (by omega)]
  · rw [mv31 _ _ _ (by omega), mv31 _ _ _ (by omega), if_neg (by omega), up_k (by omega)])
set_option maxRecDepth 100000 in
theorem X5_turn (H : Rules C T) {S K : Mem} {n : Nat} (X : XM S K n) {r kd f : Int32} {Q : Pst} (h1 : AnsMY S (F_turn K n r kd f).1 (F_turn K n r kd f).2 Q) : C mX5_turn [.ref 25, .int r, .int kd, .int f] S Q := by
  obtain ⟨⟨d, R⟩, g, hz⟩ := X
  have hn8 := g.2.1
  unfold F_turn at h1
  refine Rules.go H (by decide) (Nat.le_of_ble_eq_true rfl) ?_
  repeat' (first | (refine Rules.st H okX5_turn [] ?_; conv => whnf) | refine br_t (by first | decide | assumption) ?_ | refine br_f (by first | decide | assumption) ?_ | refine br_c (fun _ => ?_) (fun _ => ?_) | refine ⟨by decide, ?_⟩ | refine ⟨by first | assumption | (unfold vp_in; decide) | ((with_reducible (refine vp_in_nI ?_ ?_)) <;> omega), ?_⟩ | fail)
  refine X5_isRoom H (R.rm.trans g.1) hn8 (fun i hi e => ?_) (fun hno => ?_)
  · subst e
    have cr : (nI i).toNatClampNeg = i := nIc (by omega)
    rw [if_pos (okR_nI hn8 hi), show ix (nI i) = i from cr] at h1
    repeat' (first | (refine Rules.st H okX5_turn [] ?_; conv => whnf) | refine br_t (by first | decide | assumption) ?_ | refine br_f (by first | decide | assumption) ?_ | refine br_c (fun _ => ?_) (fun _ => ?_) | refine ⟨by decide, ?_⟩ | refine ⟨by first | assumption | (unfold vp_in; decide) | ((with_reducible (refine vp_in_nI ?_ ?_)) <;> omega), ?_⟩ | fail)
    refine X5_isIn H (fun q1 q2 => ?_) (fun q => ?_)
    · rw [if_pos ⟨q1, (lt_7 kd).mpr q2⟩] at h1
      repeat' (first | (refine Rules.st H okX5_turn [] ?_; conv => whnf) | refine br_t (by first | decide | assumption) ?_ | refine br_f (by first | decide | assumption) ?_ | refine br_c (fun _ => ?_) (fun _ => ?_) | refine ⟨by decide, ?_⟩ | refine ⟨by first | assumption | (unfold vp_in; decide) | ((with_reducible (refine vp_in_nI ?_ ?_)) <;> omega), ?_⟩ | fail)
      refine X5_bound H (fun q3 => ?_) (fun q3 q4 => ?_) (fun q3 q4 => ?_)
      · rw [if_pos q3] at h1
        repeat' (first | (refine Rules.st H okX5_turn [] ?_; conv => whnf) | refine br_t (by first | decide | assumption) ?_ | refine br_f (by first | decide | assumption) ?_ | refine br_c (fun _ => ?_) (fun _ => ?_) | refine ⟨by decide, ?_⟩ | refine ⟨by first | assumption | (unfold vp_in; decide) | ((with_reducible (refine vp_in_nI ?_ ?_)) <;> omega), ?_⟩ | fail)
        refine X5_no H ScM.rf (k := 4) (by omega) (by omega) (by decide) (fun S' hS' => ?_)
        repeat' (first | (refine Rules.st H okX5_turn [] ?_; conv => whnf) | refine br_t (by first | decide | assumption) ?_ | refine br_f (by first | decide | assumption) ?_ | refine br_c (fun _ => ?_) (fun _ => ?_) | refine ⟨by decide, ?_⟩ | refine ⟨by first | assumption | (unfold vp_in; decide) | ((with_reducible (refine vp_in_nI ?_ ?_)) <;> omega), ?_⟩ | fail)
        exact h1 S' (hS'.rep R) hS'.y
      · rw [if_neg q3, if_pos q4] at h1
        repeat' (first | (refine Rules.st H okX5_turn [] ?_; conv => whnf) | refine br_t (by first | decide | assumption) ?_ | refine br_f (by first | decide | assumption) ?_ | refine br_c (fun _ => ?_) (fun _ => ?_) | refine ⟨by decide, ?_⟩ | refine ⟨by first | assumption | (unfold vp_in; decide) | ((with_reducible (refine vp_in_nI ?_ ?_)) <;> omega), ?_⟩ | fail)
        refine X5_no H ScM.rf (k := 6) (by omega) (by omega) (by decide) (fun S' hS' => ?_)
        repeat' (first | (refine Rules.st H okX5_turn [] ?_; conv => whnf) | refine br_t (by first | decide | assumption) ?_ | refine br_f (by first | decide | assumption) ?_ | refine br_c (fun _ => ?_) (fun _ => ?_) | refine ⟨by decide, ?_⟩ | refine ⟨by first | assumption | (unfold vp_in; decide) | ((with_reducible (refine vp_in_nI ?_ ?_)) <;> omega), ?_⟩ | fail)
        exact h1 S' (hS'.rep R) hS'.y
      · rw [if_neg q3, if_neg q4] at h1
        have key : Q (some (.int (10 * S 27 (nI i).toNatClampNeg + S 28 (nI i).toNatClampNeg))) (up (up S 27 (nI i).toNatClampNeg kd) 28 (nI i).toNatClampNeg f) := by
          rw [cr, R.kd (by omega), R.fg (by omega)]
          exact h1 _ ⟨d, (R.put1 (o := 1) (Or.inl rfl)).put1 (o := 2) (Or.inr rfl)⟩ (ScMY.fr ((FrM.put (by unfold inM; omega)).tr (FrM.put (by unfold inM; omega))))
        repeat' (first | (refine Rules.st H okX5_turn [] ?_; conv => whnf) | refine br_t (by first | decide | assumption) ?_ | refine br_f (by first | decide | assumption) ?_ | refine br_c (fun _ => ?_) (fun _ => ?_) | refine ⟨by decide, ?_⟩ | refine ⟨by first | assumption | (unfold vp_in; decide) | ((with_reducible (refine vp_in_nI ?_ ?_)) <;> omega), ?_⟩ | fail)
        exact key
    · rw [if_neg (fun z => q ⟨z.1, (lt_7 kd).mp z.2⟩)] at h1
      repeat' (first | (refine Rules.st H okX5_turn [] ?_; conv => whnf) | refine br_t (by first | decide | assumption) ?_ | refine br_f (by first | decide | assumption) ?_ | refine br_c (fun _ => ?_) (fun _ => ?_) | refine ⟨by decide, ?_⟩ | refine ⟨by first | assumption | (unfold vp_in; decide) | ((with_reducible (refine vp_in_nI ?_ ?_)) <;> omega), ?_⟩ | fail)
      refine X5_no H ScM.rf (k := 2) (by omega) (by omega) (by decide) (fun S' hS' => ?_)
      repeat' (first | (refine Rules.st H okX5_turn [] ?_; conv => whnf) | refine br_t (by first | decide | assumption) ?_ | refine br_f (by first | decide | assumption) ?_ | refine br_c (fun _ => ?_) (fun _ => ?_) | refine ⟨by decide, ?_⟩ | refine ⟨by first | assumption | (unfold vp_in; decide) | ((with_reducible (refine vp_in_nI ?_ ?_)) <;> omega), ?_⟩ | fail)
      exact h1 S' (hS'.rep R) hS'.y
  · rw [if_neg (okR_neg hn8 hno)] at h1
    repeat' (first | (refine Rules.st H okX5_turn [] ?_; conv => whnf) | refine br_t (by first | decide | assumption) ?_ | refine br_f (by first | decide | assumption) ?_ | refine br_c (fun _ => ?_) (fun _ => ?_) | refine ⟨by decide, ?_⟩ | refine ⟨by first | assumption | (unfold vp_in; decide) | ((with_reducible (refine vp_in_nI ?_ ?_)) <;> omega), ?_⟩ | fail)
    refine X5_no H ScM.rf (k := 1) (by omega) (by omega) (by decide) (fun S' hS' => ?_)
    repeat' (first | (refine Rules.st H okX5_turn [] ?_; conv => whnf) | refine br_t (by first | decide | assumption) ?_ | refine br_f (by first | decide | assumption) ?_ | refine br_c (fun _ => ?_) (fun _ => ?_) | refine ⟨by decide, ?_⟩ | refine ⟨by first | assumption | (unfold vp_in; decide) | ((with_reducible (refine vp_in_nI ?_ ?_)) <;> omega), ?_⟩ | fail)
    exact h1 S' (hS'.rep R) hS'.y
set_option maxRecDepth 100000 in
theorem X5_places (H : Rules C T) {S K : Mem} {n : Nat} (X : XM S K n) {m p l : Int32} {Q : Pst} (h1 : AnsMY S (F_places K n m p l).1 (F_places K n m p l).2 Q) : C mX5_places [.ref 25, .int m, .int p, .int l] S Q := by
  obtain ⟨⟨d, R⟩, g, hz⟩ := X
  have hn8 := g.2.1
  have e8 : S 25 8 = nI n := R.rm.trans g.1
  unfold F_places at h1
  refine Rules.go H (by decide) (Nat.le_of_ble_eq_true rfl) ?_
  repeat' (first | (refine Rules.st H okX5_places [] ?_; conv => whnf) | refine br_t (by first | decide | assumption) ?_ | refine br_f (by first | decide | assumption) ?_ | refine br_c (fun _ => ?_) (fun _ => ?_) | refine ⟨by decide, ?_⟩ | refine ⟨by first | assumption | (unfold vp_in; decide) | ((with_reducible (refine vp_in_nI ?_ ?_)) <;> omega), ?_⟩ | fail)
  refine X5_isMaid H (fun i hi e => ?_) (fun hno => ?_)
  · subst e
    have cr : (nI i).toNatClampNeg = i := nIc (by omega)
    rw [show ix (nI i) = i from cr] at h1
    repeat' (first | (refine Rules.st H okX5_places [] ?_; conv => whnf) | refine br_t (by first | decide | assumption) ?_ | refine br_f (by first | decide | assumption) ?_ | refine br_c (fun _ => ?_) (fun _ => ?_) | refine ⟨by decide, ?_⟩ | refine ⟨by first | assumption | (unfold vp_in; decide) | ((with_reducible (refine vp_in_nI ?_ ?_)) <;> omega), ?_⟩ | fail)
    rw [e8]
    refine X5_isIn H (fun q1 q2 => ?_) (fun q => ?_)
    · rw [if_pos ⟨okM_nI hi, q1, q2⟩] at h1
      repeat' (first | (refine Rules.st H okX5_places [] ?_; conv => whnf) | refine br_t (by first | decide | assumption) ?_ | refine br_f (by first | decide | assumption) ?_ | refine br_c (fun _ => ?_) (fun _ => ?_) | refine ⟨by decide, ?_⟩ | refine ⟨by first | assumption | (unfold vp_in; decide) | ((with_reducible (refine vp_in_nI ?_ ?_)) <;> omega), ?_⟩ | fail)
      refine X5_bound H (fun q3 => ?_) (fun q3 q4 => ?_) (fun q3 q4 => ?_)
      · rw [if_pos q3] at h1
        repeat' (first | (refine Rules.st H okX5_places [] ?_; conv => whnf) | refine br_t (by first | decide | assumption) ?_ | refine br_f (by first | decide | assumption) ?_ | refine br_c (fun _ => ?_) (fun _ => ?_) | refine ⟨by decide, ?_⟩ | refine ⟨by first | assumption | (unfold vp_in; decide) | ((with_reducible (refine vp_in_nI ?_ ?_)) <;> omega), ?_⟩ | fail)
        refine X5_no H ScM.rf (k := 4) (by omega) (by omega) (by decide) (fun S' hS' => ?_)
        repeat' (first | (refine Rules.st H okX5_places [] ?_; conv => whnf) | refine br_t (by first | decide | assumption) ?_ | refine br_f (by first | decide | assumption) ?_ | refine br_c (fun _ => ?_) (fun _ => ?_) | refine ⟨by decide, ?_⟩ | refine ⟨by first | assumption | (unfold vp_in; decide) | ((with_reducible (refine vp_in_nI ?_ ?_)) <;> omega), ?_⟩ | fail)
        exact h1 S' (hS'.rep R) hS'.y
      · rw [if_neg q3, if_pos q4] at h1
        repeat' (first | (refine Rules.st H okX5_places [] ?_; conv => whnf) | refine br_t (by first | decide | assumption) ?_ | refine br_f (by first | decide | assumption) ?_ | refine br_c (fun _ => ?_) (fun _ => ?_) | refine ⟨by decide, ?_⟩ | refine ⟨by first | assumption | (unfold vp_in; decide) | ((with_reducible (refine vp_in_nI ?_ ?_)) <;> omega), ?_⟩ | fail)
        refine X5_no H ScM.rf (k := 6) (by omega) (by omega) (by decide) (fun S' hS' => ?_)
        repeat' (first | (refine Rules.st H okX5_places [] ?_; conv => whnf) | refine br_t (by first | decide | assumption) ?_ | refine br_f (by first | decide | assumption) ?_ | refine br_c (fun _ => ?_) (fun _ => ?_) | refine ⟨by decide, ?_⟩ | refine ⟨by first | assumption | (unfold vp_in; decide) | ((with_reducible (refine vp_in_nI ?_ ?_)) <;> omega), ?_⟩ | fail)
        exact h1 S' (hS'.rep R) hS'.y
      · rw [if_neg q3, if_neg q4] at h1
        have key : Q (some (.int (10 * S 31 (nI i).toNatClampNeg + S 32 (nI i).toNatClampNeg))) (up (up S 31 (nI i).toNatClampNeg p) 32 (nI i).toNatClampNeg l) := by
          rw [cr, R.at hi, R.ld hi]
          exact h1 _ ⟨d, (R.put3 (o := 3) (by omega) (by omega)).put3 (o := 4) (by omega) (by omega)⟩ (ScMY.fr ((FrM.put (by unfold inM; omega)).tr (FrM.put (by unfold inM; omega))))
        repeat' (first | (refine Rules.st H okX5_places [] ?_; conv => whnf) | refine br_t (by first | decide | assumption) ?_ | refine br_f (by first | decide | assumption) ?_ | refine br_c (fun _ => ?_) (fun _ => ?_) | refine ⟨by decide, ?_⟩ | refine ⟨by first | assumption | (unfold vp_in; decide) | ((with_reducible (refine vp_in_nI ?_ ?_)) <;> omega), ?_⟩ | fail)
        exact key
    · rw [if_neg (fun z => q z.2)] at h1
      repeat' (first | (refine Rules.st H okX5_places [] ?_; conv => whnf) | refine br_t (by first | decide | assumption) ?_ | refine br_f (by first | decide | assumption) ?_ | refine br_c (fun _ => ?_) (fun _ => ?_) | refine ⟨by decide, ?_⟩ | refine ⟨by first | assumption | (unfold vp_in; decide) | ((with_reducible (refine vp_in_nI ?_ ?_)) <;> omega), ?_⟩ | fail)
      refine X5_no H ScM.rf (k := 1) (by omega) (by omega) (by decide) (fun S' hS' => ?_)
      repeat' (first | (refine Rules.st H okX5_places [] ?_; conv => whnf) | refine br_t (by first | decide | assumption) ?_ | refine br_f (by first | decide | assumption) ?_ | refine br_c (fun _ => ?_) (fun _ => ?_) | refine ⟨by decide, ?_⟩ | refine ⟨by first | assumption | (unfold vp_in; decide) | ((with_reducible (refine vp_in_nI ?_ ?_)) <;> omega), ?_⟩ | fail)
      exact h1 S' (hS'.rep R) hS'.y
  · rw [if_neg (fun z => okM_neg hno z.1)] at h1
    repeat' (first | (refine Rules.st H okX5_places [] ?_; conv => whnf) | refine br_t (by first | decide | assumption) ?_ | refine br_f (by first | decide | assumption) ?_ | refine br_c (fun _ => ?_) (fun _ => ?_) | refine ⟨by decide, ?_⟩ | refine ⟨by first | assumption | (unfold vp_in; decide) | ((with_reducible (refine vp_in_nI ?_ ?_)) <;> omega), ?_⟩ | fail)
    refine X5_no H ScM.rf (k := 1) (by omega) (by omega) (by decide) (fun S' hS' => ?_)
    repeat' (first | (refine Rules.st H okX5_places [] ?_; conv => whnf) | refine br_t (by first | decide | assumption) ?_ | refine br_f (by first | decide | assumption) ?_ | refine br_c (fun _ => ?_) (fun _ => ?_) | refine ⟨by decide, ?_⟩ | refine ⟨by first | assumption | (unfold vp_in; decide) | ((with_reducible (refine vp_in_nI ?_ ?_)) <;> omega), ?_⟩ | fail)
    exact h1 S' (hS'.rep R) hS'.y
set_option maxRecDepth 100000 in
theorem X5_stays (H : Rules C T) {S K : Mem} {n : Nat} (X : XM S K n) {m t : Int32} {Q : Pst} (h1 : AnsMY S (F_stays K m t).1 (F_stays K m t).2 Q) : C mX5_stays [.ref 25, .int m, .int t] S Q := by
  obtain ⟨⟨d, R⟩, g, hz⟩ := X
  unfold F_stays at h1
  refine Rules.go H (by decide) (Nat.le_of_ble_eq_true rfl) ?_
  repeat' (first | (refine Rules.st H okX5_stays [] ?_; conv => whnf) | refine br_t (by first | decide | assumption) ?_ | refine br_f (by first | decide | assumption) ?_ | refine br_c (fun _ => ?_) (fun _ => ?_) | refine ⟨by decide, ?_⟩ | refine ⟨by first | assumption | (unfold vp_in; decide) | ((with_reducible (refine vp_in_nI ?_ ?_)) <;> omega), ?_⟩ | fail)
  refine X5_isMaid H (fun i hi e => ?_) (fun hno => ?_)
  · subst e
    have cr : (nI i).toNatClampNeg = i := nIc (by omega)
    have e33 : S 33 (nI i).toNatClampNeg = K 5 i := by rw [cr]; exact R.ck hi
    rw [if_pos (okM_nI hi), show ix (nI i) = i from cr] at h1
    repeat' (first | (refine Rules.st H okX5_stays [] ?_; conv => whnf) | refine br_t (by first | decide | assumption) ?_ | refine br_f (by first | decide | assumption) ?_ | refine br_c (fun _ => ?_) (fun _ => ?_) | refine ⟨by decide, ?_⟩ | refine ⟨by first | assumption | (unfold vp_in; decide) | ((with_reducible (refine vp_in_nI ?_ ?_)) <;> omega), ?_⟩ | fail)
    refine X5_bound H (fun q3 => ?_) (fun q3 q4 => ?_) (fun q3 q4 => ?_)
    · rw [if_pos q3] at h1
      repeat' (first | (refine Rules.st H okX5_stays [] ?_; conv => whnf) | refine br_t (by first | decide | assumption) ?_ | refine br_f (by first | decide | assumption) ?_ | refine br_c (fun _ => ?_) (fun _ => ?_) | refine ⟨by decide, ?_⟩ | refine ⟨by first | assumption | (unfold vp_in; decide) | ((with_reducible (refine vp_in_nI ?_ ?_)) <;> omega), ?_⟩ | fail)
      refine X5_no H ScM.rf (k := 4) (by omega) (by omega) (by decide) (fun S' hS' => ?_)
      repeat' (first | (refine Rules.st H okX5_stays [] ?_; conv => whnf) | refine br_t (by first | decide | assumption) ?_ | refine br_f (by first | decide | assumption) ?_ | refine br_c (fun _ => ?_) (fun _ => ?_) | refine ⟨by decide, ?_⟩ | refine ⟨by first | assumption | (unfold vp_in; decide) | ((with_reducible (refine vp_in_nI ?_ ?_)) <;> omega), ?_⟩ | fail)
      exact h1 S' (hS'.rep R) hS'.y
    · rw [if_neg q3, if_pos q4] at h1
      repeat' (first | (refine Rules.st H okX5_stays [] ?_; conv => whnf) | refine br_t (by first | decide | assumption) ?_ | refine br_f (by first | decide | assumption) ?_ | refine br_c (fun _ => ?_) (fun _ => ?_) | refine ⟨by decide, ?_⟩ | refine ⟨by first | assumption | (unfold vp_in; decide) | ((with_reducible (refine vp_in_nI ?_ ?_)) <;> omega), ?_⟩ | fail)
      refine X5_no H ScM.rf (k := 6) (by omega) (by omega) (by decide) (fun S' hS' => ?_)
      repeat' (first | (refine Rules.st H okX5_stays [] ?_; conv => whnf) | refine br_t (by first | decide | assumption) ?_ | refine br_f (by first | decide | assumption) ?_ | refine br_c (fun _ => ?_) (fun _ => ?_) | refine ⟨by decide, ?_⟩ | refine ⟨by first | assumption | (unfold vp_in; decide) | ((with_reducible (refine vp_in_nI ?_ ?_)) <;> omega), ?_⟩ | fail)
      exact h1 S' (hS'.rep R) hS'.y
    · rw [if_neg q3, if_neg q4] at h1
      by_cases q5 : 999 < K 5 i + t
      · rw [if_pos q5] at h1
        have q6 : ¬ S 33 (nI i).toNatClampNeg + t ≤ 999 := by rw [e33]; exact Int32.not_le.mpr q5
        repeat' (first | (refine Rules.st H okX5_stays [] ?_; conv => whnf) | refine br_t (by first | decide | assumption) ?_ | refine br_f (by first | decide | assumption) ?_ | refine br_c (fun _ => ?_) (fun _ => ?_) | refine ⟨by decide, ?_⟩ | refine ⟨by first | assumption | (unfold vp_in; decide) | ((with_reducible (refine vp_in_nI ?_ ?_)) <;> omega), ?_⟩ | fail)
        refine X5_no H ScM.rf (k := 6) (by omega) (by omega) (by decide) (fun S' hS' => ?_)
        repeat' (first | (refine Rules.st H okX5_stays [] ?_; conv => whnf) | refine br_t (by first | decide | assumption) ?_ | refine br_f (by first | decide | assumption) ?_ | refine br_c (fun _ => ?_) (fun _ => ?_) | refine ⟨by decide, ?_⟩ | refine ⟨by first | assumption | (unfold vp_in; decide) | ((with_reducible (refine vp_in_nI ?_ ?_)) <;> omega), ?_⟩ | fail)
        exact h1 S' (hS'.rep R) hS'.y
      · rw [if_neg q5] at h1
        have q6 : S 33 (nI i).toNatClampNeg + t ≤ 999 := by rw [e33]; exact Int32.not_lt.mp q5
        have key : Q (some (.int (up S 33 (nI i).toNatClampNeg (S 33 (nI i).toNatClampNeg + t) 33 (nI i).toNatClampNeg))) (up S 33 (nI i).toNatClampNeg (S 33 (nI i).toNatClampNeg + t)) := by
          rw [up_at, e33, cr]
          exact h1 _ ⟨d, R.put3 (o := 5) (by omega) (by omega)⟩ (ScMY.fr (FrM.put (by unfold inM; omega)))
        repeat' (first | (refine Rules.st H okX5_stays [] ?_; conv => whnf) | refine br_t (by first | decide | assumption) ?_ | refine br_f (by first | decide | assumption) ?_ | refine br_c (fun _ => ?_) (fun _ => ?_) | refine ⟨by decide, ?_⟩ | refine ⟨by first | assumption | (unfold vp_in; decide) | ((with_reducible (refine vp_in_nI ?_ ?_)) <;> omega), ?_⟩ | fail)
        exact key
  · rw [if_neg (okM_neg hno)] at h1
    repeat' (first | (refine Rules.st H okX5_stays [] ?_; conv => whnf) | refine br_t (by first | decide | assumption) ?_ | refine br_f (by first | decide | assumption) ?_ | refine br_c (fun _ => ?_) (fun _ => ?_) | refine ⟨by decide, ?_⟩ | refine ⟨by first | assumption | (unfold vp_in; decide) | ((with_reducible (refine vp_in_nI ?_ ?_)) <;> omega), ?_⟩ | fail)
    refine X5_no H ScM.rf (k := 1) (by omega) (by omega) (by decide) (fun S' hS' => ?_)
    repeat' (first | (refine Rules.st H okX5_stays [] ?_; conv => whnf) | refine br_t (by first | decide | assumption) ?_ | refine br_f (by first | decide | assumption) ?_ | refine br_c (fun _ => ?_) (fun _ => ?_) | refine ⟨by decide, ?_⟩ | refine ⟨by first | assumption | (unfold vp_in; decide) | ((with_reducible (refine vp_in_nI ?_ ?_)) <;> omega), ?_⟩ | fail)
    exact h1 S' (hS'.rep R) hS'.y
end M8
