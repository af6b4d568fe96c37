section X5
variable {C : Cst} {T : Nat → Pst → Nat → Lcs → List Value → Mem → Prop}
abbrev okP (n : Nat) (x : Int32) : Prop := 0 ≤ x ∧ x ≤ nI n
set_option maxRecDepth 100000 in
theorem okP_nI {n r : Nat} (hn : n ≤ 8) (h : r ≤ n) : okP n (nI r) := ⟨nI_le (Nat.zero_le r) (by omega), nI_le h (by omega)⟩
set_option maxRecDepth 100000 in
theorem okP_neg {n : Nat} (hn8 : n ≤ 8) {x : Int32} (h : ∀ r, r ≤ n → ¬ x = nI r) : ¬ okP n x := fun z => by
  obtain ⟨j, hj, e⟩ := nI_of (Int32.not_lt.mpr z.1)
  exact h j (by have := z.2; rw [e, nI_leI hj (by omega)] at this; exact this) e
def F_places (K : Mem) (n : Nat) (m p l : Int32) : Ans × Mem :=
  if okM m ∧ okP n p then if l < 0 then ((4, -4), K) else if 6 < l then ((6, -6), K) else ((0, 10 * K 3 (ix m) + K 4 (ix m)), up (up K 3 (ix m) p) 4 (ix m) l) else ((1, -1), K)
set_option maxRecDepth 100000 in
theorem X4_places (H : Rules C T) {S K : Mem} {n : Nat} (X : XK S K n) {m p l : Int32} {Q : Pst} (h1 : AnsY S (F_places K n m p l).1 (F_places K n m p l).2 Q) : C mX4_places [.ref 0, .int m, .int p, .int l] S Q := by
  obtain ⟨R, hn, hn8, hz⟩ := X
  unfold F_places at h1
  refine Rules.go H (by decide) (Nat.le_of_ble_eq_true rfl) ?_
  repeat' (first | (refine Rules.st H okX4_places [] ?_; conv => whnf) | refine br_t (by first | decide | assumption) ?_ | refine br_f (by first | decide | assumption) ?_ | refine br_c (fun _ => ?_) (fun _ => ?_) | refine ⟨by decide, ?_⟩ | refine ⟨by first | assumption | (unfold vp_in; decide) | ((with_reducible (refine vp_in_nI ?_ ?_)) <;> omega), ?_⟩ | fail)
  refine X1_hasMaid H (fun i hi e => ?_) (fun hno => ?_)
  · subst e
    rw [show ix (nI i) = i from nIc (by omega)] at h1
    repeat' (first | (refine Rules.st H okX4_places [] ?_; conv => whnf) | refine br_t (by first | decide | assumption) ?_ | refine br_f (by first | decide | assumption) ?_ | refine br_c (fun _ => ?_) (fun _ => ?_) | refine ⟨by decide, ?_⟩ | refine ⟨by first | assumption | (unfold vp_in; decide) | ((with_reducible (refine vp_in_nI ?_ ?_)) <;> omega), ?_⟩ | fail)
    refine X1_hasPlace H (Or.inl rfl) R hn hn8 (fun r hr e => ?_) (fun hno => ?_)
    · subst e
      rw [if_pos ⟨okM_nI hi, okP_nI hn8 hr⟩] at h1
      repeat' (first | (refine Rules.st H okX4_places [] ?_; conv => whnf) | refine br_t (by first | decide | assumption) ?_ | refine br_f (by first | decide | assumption) ?_ | refine br_c (fun _ => ?_) (fun _ => ?_) | refine ⟨by decide, ?_⟩ | refine ⟨by first | assumption | (unfold vp_in; decide) | ((with_reducible (refine vp_in_nI ?_ ?_)) <;> omega), ?_⟩ | fail)
      · rw [if_neg (Int32.not_lt.mpr (by assumption)), if_neg (Int32.not_lt.mpr (by assumption))] at h1
        refine X1_placeOf H (Or.inl rfl) R hi ?_
        repeat' (first | (refine Rules.st H okX4_places [] ?_; conv => whnf) | refine br_t (by first | decide | assumption) ?_ | refine br_f (by first | decide | assumption) ?_ | refine br_c (fun _ => ?_) (fun _ => ?_) | refine ⟨by decide, ?_⟩ | refine ⟨by first | assumption | (unfold vp_in; decide) | ((with_reducible (refine vp_in_nI ?_ ?_)) <;> omega), ?_⟩ | fail)
        refine X1_loadOf H (Or.inl rfl) R hi ?_
        repeat' (first | (refine Rules.st H okX4_places [] ?_; conv => whnf) | refine br_t (by first | decide | assumption) ?_ | refine br_f (by first | decide | assumption) ?_ | refine br_c (fun _ => ?_) (fun _ => ?_) | refine ⟨by decide, ?_⟩ | refine ⟨by first | assumption | (unfold vp_in; decide) | ((with_reducible (refine vp_in_nI ?_ ?_)) <;> omega), ?_⟩ | fail)
        refine X1_setPlace H (Or.inl rfl) R hi (fun S1 R1 F1 => ?_)
        repeat' (first | (refine Rules.st H okX4_places [] ?_; conv => whnf) | refine br_t (by first | decide | assumption) ?_ | refine br_f (by first | decide | assumption) ?_ | refine br_c (fun _ => ?_) (fun _ => ?_) | refine ⟨by decide, ?_⟩ | refine ⟨by first | assumption | (unfold vp_in; decide) | ((with_reducible (refine vp_in_nI ?_ ?_)) <;> omega), ?_⟩ | fail)
        refine X1_setLoad H (Or.inl rfl) R1 hi (fun S2 R2 F2 => ?_)
        repeat' (first | (refine Rules.st H okX4_places [] ?_; conv => whnf) | refine br_t (by first | decide | assumption) ?_ | refine br_f (by first | decide | assumption) ?_ | refine br_c (fun _ => ?_) (fun _ => ?_) | refine ⟨by decide, ?_⟩ | refine ⟨by first | assumption | (unfold vp_in; decide) | ((with_reducible (refine vp_in_nI ?_ ?_)) <;> omega), ?_⟩ | fail)
        exact h1 S2 R2 (ScY.fr (F1.tr F2))
      · rw [if_neg (Int32.not_lt.mpr (by assumption)), if_pos (Int32.not_le.mp (by assumption))] at h1
        refine X4_ref H (ScX.rf) (k := 6) (by omega) (by omega) (by decide) (fun S' hS' => ?_)
        repeat' (first | (refine Rules.st H okX4_places [] ?_; conv => whnf) | refine br_t (by first | decide | assumption) ?_ | refine br_f (by first | decide | assumption) ?_ | refine br_c (fun _ => ?_) (fun _ => ?_) | refine ⟨by decide, ?_⟩ | refine ⟨by first | assumption | (unfold vp_in; decide) | ((with_reducible (refine vp_in_nI ?_ ?_)) <;> omega), ?_⟩ | fail)
        exact h1 S' (hS'.rep R (Or.inl rfl)) hS'.y
      · rw [if_pos (Int32.not_le.mp (by assumption))] at h1
        refine X4_ref H (ScX.rf) (k := 4) (by omega) (by omega) (by decide) (fun S' hS' => ?_)
        repeat' (first | (refine Rules.st H okX4_places [] ?_; conv => whnf) | refine br_t (by first | decide | assumption) ?_ | refine br_f (by first | decide | assumption) ?_ | refine br_c (fun _ => ?_) (fun _ => ?_) | refine ⟨by decide, ?_⟩ | refine ⟨by first | assumption | (unfold vp_in; decide) | ((with_reducible (refine vp_in_nI ?_ ?_)) <;> omega), ?_⟩ | fail)
        exact h1 S' (hS'.rep R (Or.inl rfl)) hS'.y
    · rw [if_neg (fun z => okP_neg hn8 hno z.2)] at h1
      repeat' (first | (refine Rules.st H okX4_places [] ?_; conv => whnf) | refine br_t (by first | decide | assumption) ?_ | refine br_f (by first | decide | assumption) ?_ | refine br_c (fun _ => ?_) (fun _ => ?_) | refine ⟨by decide, ?_⟩ | refine ⟨by first | assumption | (unfold vp_in; decide) | ((with_reducible (refine vp_in_nI ?_ ?_)) <;> omega), ?_⟩ | fail)
      refine X4_ref H (ScX.rf) (k := 1) (by omega) (by omega) (by decide) (fun S' hS' => ?_)
      repeat' (first | (refine Rules.st H okX4_places [] ?_; conv => whnf) | refine br_t (by first | decide | assumption) ?_ | refine br_f (by first | decide | assumption) ?_ | refine br_c (fun _ => ?_) (fun _ => ?_) | refine ⟨by decide, ?_⟩ | refine ⟨by first | assumption | (unfold vp_in; decide) | ((with_reducible (refine vp_in_nI ?_ ?_)) <;> omega), ?_⟩ | fail)
      exact h1 S' (hS'.rep R (Or.inl rfl)) hS'.y
  · rw [if_neg (fun z => okM_neg hno z.1)] at h1
    repeat' (first | (refine Rules.st H okX4_places [] ?_; conv => whnf) | refine br_t (by first | decide | assumption) ?_ | refine br_f (by first | decide | assumption) ?_ | refine br_c (fun _ => ?_) (fun _ => ?_) | refine ⟨by decide, ?_⟩ | refine ⟨by first | assumption | (unfold vp_in; decide) | ((with_reducible (refine vp_in_nI ?_ ?_)) <;> omega), ?_⟩ | fail)
    refine X4_ref H (ScX.rf) (k := 1) (by omega) (by omega) (by decide) (fun S' hS' => ?_)
    repeat' (first | (refine Rules.st H okX4_places [] ?_; conv => whnf) | refine br_t (by first | decide | assumption) ?_ | refine br_f (by first | decide | assumption) ?_ | refine br_c (fun _ => ?_) (fun _ => ?_) | refine ⟨by decide, ?_⟩ | refine ⟨by first | assumption | (unfold vp_in; decide) | ((with_reducible (refine vp_in_nI ?_ ?_)) <;> omega), ?_⟩ | fail)
    exact h1 S' (hS'.rep R (Or.inl rfl)) hS'.y
def F_stays (K : Mem) (m t : Int32) : Ans × Mem :=
  if okM m then if t < 1 then ((4, -4), K) else if 60 < t then ((6, -6), K) else if 999 < K 5 (ix m) + t then ((6, -6), K) else ((0, K 5 (ix m) + t), passK K (ix m) t) else ((1, -1), K)
set_option maxRecDepth 100000 in
theorem X4_stays (H : Rules C T) {S K : Mem} {n : Nat} (X : XK S K n) {m t : Int32} {Q : Pst} (h1 : AnsY S (F_stays K m t).1 (F_stays K m t).2 Q) : C mX4_stays [.ref 0, .int m, .int t] S Q := by
  obtain ⟨R, hn, hn8, hz⟩ := X
  unfold F_stays at h1
  refine Rules.go H (by decide) (Nat.le_of_ble_eq_true rfl) ?_
  repeat' (first | (refine Rules.st H okX4_stays [] ?_; conv => whnf) | refine br_t (by first | decide | assumption) ?_ | refine br_f (by first | decide | assumption) ?_ | refine br_c (fun _ => ?_) (fun _ => ?_) | refine ⟨by decide, ?_⟩ | refine ⟨by first | assumption | (unfold vp_in; decide) | ((with_reducible (refine vp_in_nI ?_ ?_)) <;> omega), ?_⟩ | fail)
  refine X1_hasMaid H (fun i hi e => ?_) (fun hno => ?_)
  · subst e
    rw [show ix (nI i) = i from nIc (by omega), if_pos (okM_nI hi)] at h1
    repeat' (first | (refine Rules.st H okX4_stays [] ?_; conv => whnf) | refine br_t (by first | decide | assumption) ?_ | refine br_f (by first | decide | assumption) ?_ | refine br_c (fun _ => ?_) (fun _ => ?_) | refine ⟨by decide, ?_⟩ | refine ⟨by first | assumption | (unfold vp_in; decide) | ((with_reducible (refine vp_in_nI ?_ ?_)) <;> omega), ?_⟩ | fail)
    · rw [if_neg (Int32.not_lt.mpr (by assumption)), if_pos (by assumption)] at h1
      refine X4_ref H (ScX.rf) (k := 6) (by omega) (by omega) (by decide) (fun S' hS' => ?_)
      repeat' (first | (refine Rules.st H okX4_stays [] ?_; conv => whnf) | refine br_t (by first | decide | assumption) ?_ | refine br_f (by first | decide | assumption) ?_ | refine br_c (fun _ => ?_) (fun _ => ?_) | refine ⟨by decide, ?_⟩ | refine ⟨by first | assumption | (unfold vp_in; decide) | ((with_reducible (refine vp_in_nI ?_ ?_)) <;> omega), ?_⟩ | fail)
      exact h1 S' (hS'.rep R (Or.inl rfl)) hS'.y
    · rw [if_neg (Int32.not_lt.mpr (by assumption)), if_neg (by assumption)] at h1
      refine X1_clockOf H (Or.inl rfl) R hi ?_
      repeat' (first | (refine Rules.st H okX4_stays [] ?_; conv => whnf) | refine br_t (by first | decide | assumption) ?_ | refine br_f (by first | decide | assumption) ?_ | refine br_c (fun _ => ?_) (fun _ => ?_) | refine ⟨by decide, ?_⟩ | refine ⟨by first | assumption | (unfold vp_in; decide) | ((with_reducible (refine vp_in_nI ?_ ?_)) <;> omega), ?_⟩ | fail)
      · rw [if_neg (Int32.not_lt.mpr (by assumption))] at h1
        refine X1_pass H (Or.inl rfl) R hi (fun S1 R1 F1 => ?_)
        repeat' (first | (refine Rules.st H okX4_stays [] ?_; conv => whnf) | refine br_t (by first | decide | assumption) ?_ | refine br_f (by first | decide | assumption) ?_ | refine br_c (fun _ => ?_) (fun _ => ?_) | refine ⟨by decide, ?_⟩ | refine ⟨by first | assumption | (unfold vp_in; decide) | ((with_reducible (refine vp_in_nI ?_ ?_)) <;> omega), ?_⟩ | fail)
        refine X1_clockOf H (Or.inl rfl) R1 hi ?_
        repeat' (first | (refine Rules.st H okX4_stays [] ?_; conv => whnf) | refine br_t (by first | decide | assumption) ?_ | refine br_f (by first | decide | assumption) ?_ | refine br_c (fun _ => ?_) (fun _ => ?_) | refine ⟨by decide, ?_⟩ | refine ⟨by first | assumption | (unfold vp_in; decide) | ((with_reducible (refine vp_in_nI ?_ ?_)) <;> omega), ?_⟩ | fail)
        have e : passK K i t 5 i = K 5 i + t := up_at
        rw [e]
        exact h1 S1 R1 (ScY.fr F1)
      · rw [if_pos (Int32.not_le.mp (by assumption))] at h1
        refine X4_ref H (ScX.rf) (k := 6) (by omega) (by omega) (by decide) (fun S' hS' => ?_)
        repeat' (first | (refine Rules.st H okX4_stays [] ?_; conv => whnf) | refine br_t (by first | decide | assumption) ?_ | refine br_f (by first | decide | assumption) ?_ | refine br_c (fun _ => ?_) (fun _ => ?_) | refine ⟨by decide, ?_⟩ | refine ⟨by first | assumption | (unfold vp_in; decide) | ((with_reducible (refine vp_in_nI ?_ ?_)) <;> omega), ?_⟩ | fail)
        exact h1 S' (hS'.rep R (Or.inl rfl)) hS'.y
    · rw [if_pos (Int32.not_le.mp (by assumption))] at h1
      refine X4_ref H (ScX.rf) (k := 4) (by omega) (by omega) (by decide) (fun S' hS' => ?_)
      repeat' (first | (refine Rules.st H okX4_stays [] ?_; conv => whnf) | refine br_t (by first | decide | assumption) ?_ | refine br_f (by first | decide | assumption) ?_ | refine br_c (fun _ => ?_) (fun _ => ?_) | refine ⟨by decide, ?_⟩ | refine ⟨by first | assumption | (unfold vp_in; decide) | ((with_reducible (refine vp_in_nI ?_ ?_)) <;> omega), ?_⟩ | fail)
      exact h1 S' (hS'.rep R (Or.inl rfl)) hS'.y
  · rw [if_neg (okM_neg hno)] at h1
    repeat' (first | (refine Rules.st H okX4_stays [] ?_; conv => whnf) | refine br_t (by first | decide | assumption) ?_ | refine br_f (by first | decide | assumption) ?_ | refine br_c (fun _ => ?_) (fun _ => ?_) | refine ⟨by decide, ?_⟩ | refine ⟨by first | assumption | (unfold vp_in; decide) | ((with_reducible (refine vp_in_nI ?_ ?_)) <;> omega), ?_⟩ | fail)
    refine X4_ref H (ScX.rf) (k := 1) (by omega) (by omega) (by decide) (fun S' hS' => ?_)
    repeat' (first | (refine Rules.st H okX4_stays [] ?_; conv => whnf) | refine br_t (by first | decide | assumption) ?_ | refine br_f (by first | decide | assumption) ?_ | refine br_c (fun _ => ?_) (fun _ => ?_) | refine ⟨by decide, ?_⟩ | refine ⟨by first | assumption | (unfold vp_in; decide) | ((with_reducible (refine vp_in_nI ?_ ?_)) <;> omega), ?_⟩ | fail)
    exact h1 S' (hS'.rep R (Or.inl rfl)) hS'.y
def F_visits (K : Mem) (n : Nat) (m r : Int32) : Ans × Mem :=
  if okM m ∧ okR n r then if 999 < (visitK K (ix m) (ix r)).2 5 (ix m) then ((6, -6), K) else ((0, (visitK K (ix m) (ix r)).1), freshK (visitK K (ix m) (ix r)).2) else ((1, -1), K)
set_option maxRecDepth 100000 in
theorem X4_visits (H : Rules C T) {S K : Mem} {n : Nat} (X : XK S K n) {m r : Int32} {Q : Pst} (h1 : AnsY S (F_visits K n m r).1 (F_visits K n m r).2 Q) : C mX4_visits [.ref 0, .int m, .int r] S Q := by
  obtain ⟨R, hn, hn8, hz⟩ := X
  unfold F_visits at h1
  refine Rules.go H (by decide) (Nat.le_of_ble_eq_true rfl) ?_
  repeat' (first | (refine Rules.st H okX4_visits [] ?_; conv => whnf) | refine br_t (by first | decide | assumption) ?_ | refine br_f (by first | decide | assumption) ?_ | refine br_c (fun _ => ?_) (fun _ => ?_) | refine ⟨by decide, ?_⟩ | refine ⟨by first | assumption | (unfold vp_in; decide) | ((with_reducible (refine vp_in_nI ?_ ?_)) <;> omega), ?_⟩ | fail)
  refine X1_hasMaid H (fun i hi e => ?_) (fun hno => ?_)
  · subst e
    rw [show ix (nI i) = i from nIc (by omega)] at h1
    repeat' (first | (refine Rules.st H okX4_visits [] ?_; conv => whnf) | refine br_t (by first | decide | assumption) ?_ | refine br_f (by first | decide | assumption) ?_ | refine br_c (fun _ => ?_) (fun _ => ?_) | refine ⟨by decide, ?_⟩ | refine ⟨by first | assumption | (unfold vp_in; decide) | ((with_reducible (refine vp_in_nI ?_ ?_)) <;> omega), ?_⟩ | fail)
    refine X1_hasRoom H (Or.inl rfl) R hn hn8 (fun j hj e => ?_) (fun hno => ?_)
    · subst e
      rw [if_pos ⟨okM_nI hi, okR_nI hn8 hj⟩, show ix (nI j) = j from nIc (by omega)] at h1
      repeat' (first | (refine Rules.st H okX4_visits [] ?_; conv => whnf) | refine br_t (by first | decide | assumption) ?_ | refine br_f (by first | decide | assumption) ?_ | refine br_c (fun _ => ?_) (fun _ => ?_) | refine ⟨by decide, ?_⟩ | refine ⟨by first | assumption | (unfold vp_in; decide) | ((with_reducible (refine vp_in_nI ?_ ?_)) <;> omega), ?_⟩ | fail)
      refine X4_think H R hz (fun S1 R1 F1 => ?_)
      repeat' (first | (refine Rules.st H okX4_visits [] ?_; conv => whnf) | refine br_t (by first | decide | assumption) ?_ | refine br_f (by first | decide | assumption) ?_ | refine br_c (fun _ => ?_) (fun _ => ?_) | refine ⟨by decide, ?_⟩ | refine ⟨by first | assumption | (unfold vp_in; decide) | ((with_reducible (refine vp_in_nI ?_ ?_)) <;> omega), ?_⟩ | fail)
      refine X1_visitBy H (Or.inr (Or.inl rfl)) R1 hi (by omega) (fun S2 R2 F2 => ?_)
      repeat' (first | (refine Rules.st H okX4_visits [] ?_; conv => whnf) | refine br_t (by first | decide | assumption) ?_ | refine br_f (by first | decide | assumption) ?_ | refine br_c (fun _ => ?_) (fun _ => ?_) | refine ⟨by decide, ?_⟩ | refine ⟨by first | assumption | (unfold vp_in; decide) | ((with_reducible (refine vp_in_nI ?_ ?_)) <;> omega), ?_⟩ | fail)
      refine X1_clockOf H (Or.inr (Or.inl rfl)) R2 hi ?_
      repeat' (first | (refine Rules.st H okX4_visits [] ?_; conv => whnf) | refine br_t (by first | decide | assumption) ?_ | refine br_f (by first | decide | assumption) ?_ | refine br_c (fun _ => ?_) (fun _ => ?_) | refine ⟨by decide, ?_⟩ | refine ⟨by first | assumption | (unfold vp_in; decide) | ((with_reducible (refine vp_in_nI ?_ ?_)) <;> omega), ?_⟩ | fail)
      · rw [if_neg (Int32.not_lt.mpr (by assumption))] at h1
        refine X1_become H (Or.inr (Or.inl ⟨rfl, rfl⟩)) R2 (fun S3 R3 F3 => ?_)
        repeat' (first | (refine Rules.st H okX4_visits [] ?_; conv => whnf) | refine br_t (by first | decide | assumption) ?_ | refine br_f (by first | decide | assumption) ?_ | refine br_c (fun _ => ?_) (fun _ => ?_) | refine ⟨by decide, ?_⟩ | refine ⟨by first | assumption | (unfold vp_in; decide) | ((with_reducible (refine vp_in_nI ?_ ?_)) <;> omega), ?_⟩ | fail)
        exact h1 S3 R3 (((ScX.f7 (F1.tr F2)).y).tr (ScY.fr F3))
      · rw [if_pos (Int32.not_le.mp (by assumption))] at h1
        refine X4_ref H (ScX.f7 (F1.tr F2)) (k := 6) (by omega) (by omega) (by decide) (fun S' hS' => ?_)
        repeat' (first | (refine Rules.st H okX4_visits [] ?_; conv => whnf) | refine br_t (by first | decide | assumption) ?_ | refine br_f (by first | decide | assumption) ?_ | refine br_c (fun _ => ?_) (fun _ => ?_) | refine ⟨by decide, ?_⟩ | refine ⟨by first | assumption | (unfold vp_in; decide) | ((with_reducible (refine vp_in_nI ?_ ?_)) <;> omega), ?_⟩ | fail)
        exact h1 S' (hS'.rep R (Or.inl rfl)) hS'.y
    · rw [if_neg (fun z => okR_neg hn8 hno z.2)] at h1
      repeat' (first | (refine Rules.st H okX4_visits [] ?_; conv => whnf) | refine br_t (by first | decide | assumption) ?_ | refine br_f (by first | decide | assumption) ?_ | refine br_c (fun _ => ?_) (fun _ => ?_) | refine ⟨by decide, ?_⟩ | refine ⟨by first | assumption | (unfold vp_in; decide) | ((with_reducible (refine vp_in_nI ?_ ?_)) <;> omega), ?_⟩ | fail)
      refine X4_ref H (ScX.rf) (k := 1) (by omega) (by omega) (by decide) (fun S' hS' => ?_)
      repeat' (first | (refine Rules.st H okX4_visits [] ?_; conv => whnf) | refine br_t (by first | decide | assumption) ?_ | refine br_f (by first | decide | assumption) ?_ | refine br_c (fun _ => ?_) (fun _ => ?_) | refine ⟨by decide, ?_⟩ | refine ⟨by first | assumption | (unfold vp_in; decide) | ((with_reducible (refine vp_in_nI ?_ ?_)) <;> omega), ?_⟩ | fail)
      exact h1 S' (hS'.rep R (Or.inl rfl)) hS'.y
  · rw [if_neg (fun z => okM_neg hno z.1)] at h1
    repeat' (first | (refine Rules.st H okX4_visits [] ?_; conv => whnf) | refine br_t (by first | decide | assumption) ?_ | refine br_f (by first | decide | assumption) ?_ | refine br_c (fun _ => ?_) (fun _ => ?_) | refine ⟨by decide, ?_⟩ | refine ⟨by first | assumption | (unfold vp_in; decide) | ((with_reducible (refine vp_in_nI ?_ ?_)) <;> omega), ?_⟩ | fail)
    refine X4_ref H (ScX.rf) (k := 1) (by omega) (by omega) (by decide) (fun S' hS' => ?_)
    repeat' (first | (refine Rules.st H okX4_visits [] ?_; conv => whnf) | refine br_t (by first | decide | assumption) ?_ | refine br_f (by first | decide | assumption) ?_ | refine br_c (fun _ => ?_) (fun _ => ?_) | refine ⟨by decide, ?_⟩ | refine ⟨by first | assumption | (unfold vp_in; decide) | ((with_reducible (refine vp_in_nI ?_ ?_)) <;> omega), ?_⟩ | fail)
    exact h1 S' (hS'.rep R (Or.inl rfl)) hS'.y
def F_both (K : Mem) (n : Nat) (r : Int32) : Ans × Mem :=
  if okR n r then if 999 < laterK (bothK K (ix r)).2 then ((6, -6), K) else ((0, (bothK K (ix r)).1), freshK (bothK K (ix r)).2) else ((1, -1), K)
set_option maxRecDepth 100000 in
theorem X4_both (H : Rules C T) {S K : Mem} {n : Nat} (X : XK S K n) {r : Int32} {Q : Pst} (h1 : AnsY S (F_both K n r).1 (F_both K n r).2 Q) : C mX4_both [.ref 0, .int r] S Q := by
  obtain ⟨R, hn, hn8, hz⟩ := X
  unfold F_both at h1
  refine Rules.go H (by decide) (Nat.le_of_ble_eq_true rfl) ?_
  repeat' (first | (refine Rules.st H okX4_both [] ?_; conv => whnf) | refine br_t (by first | decide | assumption) ?_ | refine br_f (by first | decide | assumption) ?_ | refine br_c (fun _ => ?_) (fun _ => ?_) | refine ⟨by decide, ?_⟩ | refine ⟨by first | assumption | (unfold vp_in; decide) | ((with_reducible (refine vp_in_nI ?_ ?_)) <;> omega), ?_⟩ | fail)
  refine X1_hasRoom H (Or.inl rfl) R hn hn8 (fun j hj e => ?_) (fun hno => ?_)
  · subst e
    rw [if_pos (okR_nI hn8 hj), show ix (nI j) = j from nIc (by omega)] at h1
    repeat' (first | (refine Rules.st H okX4_both [] ?_; conv => whnf) | refine br_t (by first | decide | assumption) ?_ | refine br_f (by first | decide | assumption) ?_ | refine br_c (fun _ => ?_) (fun _ => ?_) | refine ⟨by decide, ?_⟩ | refine ⟨by first | assumption | (unfold vp_in; decide) | ((with_reducible (refine vp_in_nI ?_ ?_)) <;> omega), ?_⟩ | fail)
    refine X4_think H R hz (fun S1 R1 F1 => ?_)
    repeat' (first | (refine Rules.st H okX4_both [] ?_; conv => whnf) | refine br_t (by first | decide | assumption) ?_ | refine br_f (by first | decide | assumption) ?_ | refine br_c (fun _ => ?_) (fun _ => ?_) | refine ⟨by decide, ?_⟩ | refine ⟨by first | assumption | (unfold vp_in; decide) | ((with_reducible (refine vp_in_nI ?_ ?_)) <;> omega), ?_⟩ | fail)
    refine X1_visitByBoth H (Or.inr (Or.inl rfl)) R1 (by omega) (fun S2 R2 F2 => ?_)
    repeat' (first | (refine Rules.st H okX4_both [] ?_; conv => whnf) | refine br_t (by first | decide | assumption) ?_ | refine br_f (by first | decide | assumption) ?_ | refine br_c (fun _ => ?_) (fun _ => ?_) | refine ⟨by decide, ?_⟩ | refine ⟨by first | assumption | (unfold vp_in; decide) | ((with_reducible (refine vp_in_nI ?_ ?_)) <;> omega), ?_⟩ | fail)
    refine X1_laterClock H (Or.inr (Or.inl rfl)) R2 ?_
    repeat' (first | (refine Rules.st H okX4_both [] ?_; conv => whnf) | refine br_t (by first | decide | assumption) ?_ | refine br_f (by first | decide | assumption) ?_ | refine br_c (fun _ => ?_) (fun _ => ?_) | refine ⟨by decide, ?_⟩ | refine ⟨by first | assumption | (unfold vp_in; decide) | ((with_reducible (refine vp_in_nI ?_ ?_)) <;> omega), ?_⟩ | fail)
    · rw [if_neg (Int32.not_lt.mpr (by assumption))] at h1
      refine X1_become H (Or.inr (Or.inl ⟨rfl, rfl⟩)) R2 (fun S3 R3 F3 => ?_)
      repeat' (first | (refine Rules.st H okX4_both [] ?_; conv => whnf) | refine br_t (by first | decide | assumption) ?_ | refine br_f (by first | decide | assumption) ?_ | refine br_c (fun _ => ?_) (fun _ => ?_) | refine ⟨by decide, ?_⟩ | refine ⟨by first | assumption | (unfold vp_in; decide) | ((with_reducible (refine vp_in_nI ?_ ?_)) <;> omega), ?_⟩ | fail)
      exact h1 S3 R3 (((ScX.f7 (F1.tr F2)).y).tr (ScY.fr F3))
    · rw [if_pos (Int32.not_le.mp (by assumption))] at h1
      refine X4_ref H (ScX.f7 (F1.tr F2)) (k := 6) (by omega) (by omega) (by decide) (fun S' hS' => ?_)
      repeat' (first | (refine Rules.st H okX4_both [] ?_; conv => whnf) | refine br_t (by first | decide | assumption) ?_ | refine br_f (by first | decide | assumption) ?_ | refine br_c (fun _ => ?_) (fun _ => ?_) | refine ⟨by decide, ?_⟩ | refine ⟨by first | assumption | (unfold vp_in; decide) | ((with_reducible (refine vp_in_nI ?_ ?_)) <;> omega), ?_⟩ | fail)
      exact h1 S' (hS'.rep R (Or.inl rfl)) hS'.y
  · rw [if_neg (okR_neg hn8 hno)] at h1
    repeat' (first | (refine Rules.st H okX4_both [] ?_; conv => whnf) | refine br_t (by first | decide | assumption) ?_ | refine br_f (by first | decide | assumption) ?_ | refine br_c (fun _ => ?_) (fun _ => ?_) | refine ⟨by decide, ?_⟩ | refine ⟨by first | assumption | (unfold vp_in; decide) | ((with_reducible (refine vp_in_nI ?_ ?_)) <;> omega), ?_⟩ | fail)
    refine X4_ref H (ScX.rf) (k := 1) (by omega) (by omega) (by decide) (fun S' hS' => ?_)
    repeat' (first | (refine Rules.st H okX4_both [] ?_; conv => whnf) | refine br_t (by first | decide | assumption) ?_ | refine br_f (by first | decide | assumption) ?_ | refine br_c (fun _ => ?_) (fun _ => ?_) | refine ⟨by decide, ?_⟩ | refine ⟨by first | assumption | (unfold vp_in; decide) | ((with_reducible (refine vp_in_nI ?_ ?_)) <;> omega), ?_⟩ | fail)
    exact h1 S' (hS'.rep R (Or.inl rfl)) hS'.y
def F_down (K : Mem) (m : Int32) : Ans × Mem :=
  if okM m then if 999 < downK K (ix m) 5 (ix m) then ((6, -6), K) else ((0, downK K (ix m) 5 (ix m) - K 5 (ix m)), freshK (downK K (ix m))) else ((1, -1), K)
set_option maxRecDepth 100000 in
theorem X4_down (H : Rules C T) {S K : Mem} {n : Nat} (X : XK S K n) {m : Int32} {Q : Pst} (h1 : AnsY S (F_down K m).1 (F_down K m).2 Q) : C mX4_down [.ref 0, .int m] S Q := by
  obtain ⟨R, hn, hn8, hz⟩ := X
  unfold F_down at h1
  refine Rules.go H (by decide) (Nat.le_of_ble_eq_true rfl) ?_
  repeat' (first | (refine Rules.st H okX4_down [] ?_; conv => whnf) | refine br_t (by first | decide | assumption) ?_ | refine br_f (by first | decide | assumption) ?_ | refine br_c (fun _ => ?_) (fun _ => ?_) | refine ⟨by decide, ?_⟩ | refine ⟨by first | assumption | (unfold vp_in; decide) | ((with_reducible (refine vp_in_nI ?_ ?_)) <;> omega), ?_⟩ | fail)
  refine X1_hasMaid H (fun i hi e => ?_) (fun hno => ?_)
  · subst e
    rw [show ix (nI i) = i from nIc (by omega), if_pos (okM_nI hi)] at h1
    repeat' (first | (refine Rules.st H okX4_down [] ?_; conv => whnf) | refine br_t (by first | decide | assumption) ?_ | refine br_f (by first | decide | assumption) ?_ | refine br_c (fun _ => ?_) (fun _ => ?_) | refine ⟨by decide, ?_⟩ | refine ⟨by first | assumption | (unfold vp_in; decide) | ((with_reducible (refine vp_in_nI ?_ ?_)) <;> omega), ?_⟩ | fail)
    refine X4_think H R hz (fun S1 R1 F1 => ?_)
    repeat' (first | (refine Rules.st H okX4_down [] ?_; conv => whnf) | refine br_t (by first | decide | assumption) ?_ | refine br_f (by first | decide | assumption) ?_ | refine br_c (fun _ => ?_) (fun _ => ?_) | refine ⟨by decide, ?_⟩ | refine ⟨by first | assumption | (unfold vp_in; decide) | ((with_reducible (refine vp_in_nI ?_ ?_)) <;> omega), ?_⟩ | fail)
    refine X1_goDown H (Or.inr (Or.inl rfl)) R1 hi (fun S2 R2 F2 => ?_)
    repeat' (first | (refine Rules.st H okX4_down [] ?_; conv => whnf) | refine br_t (by first | decide | assumption) ?_ | refine br_f (by first | decide | assumption) ?_ | refine br_c (fun _ => ?_) (fun _ => ?_) | refine ⟨by decide, ?_⟩ | refine ⟨by first | assumption | (unfold vp_in; decide) | ((with_reducible (refine vp_in_nI ?_ ?_)) <;> omega), ?_⟩ | fail)
    refine X1_clockOf H (Or.inr (Or.inl rfl)) R2 hi ?_
    repeat' (first | (refine Rules.st H okX4_down [] ?_; conv => whnf) | refine br_t (by first | decide | assumption) ?_ | refine br_f (by first | decide | assumption) ?_ | refine br_c (fun _ => ?_) (fun _ => ?_) | refine ⟨by decide, ?_⟩ | refine ⟨by first | assumption | (unfold vp_in; decide) | ((with_reducible (refine vp_in_nI ?_ ?_)) <;> omega), ?_⟩ | fail)
    · rw [if_neg (Int32.not_lt.mpr (by assumption))] at h1
      refine X4_thoughtMinutes H (R.fr (F1.tr F2) (by omega)) R2 hi ?_
      repeat' (first | (refine Rules.st H okX4_down [] ?_; conv => whnf) | refine br_t (by first | decide | assumption) ?_ | refine br_f (by first | decide | assumption) ?_ | refine br_c (fun _ => ?_) (fun _ => ?_) | refine ⟨by decide, ?_⟩ | refine ⟨by first | assumption | (unfold vp_in; decide) | ((with_reducible (refine vp_in_nI ?_ ?_)) <;> omega), ?_⟩ | fail)
      refine X1_become H (Or.inr (Or.inl ⟨rfl, rfl⟩)) R2 (fun S3 R3 F3 => ?_)
      repeat' (first | (refine Rules.st H okX4_down [] ?_; conv => whnf) | refine br_t (by first | decide | assumption) ?_ | refine br_f (by first | decide | assumption) ?_ | refine br_c (fun _ => ?_) (fun _ => ?_) | refine ⟨by decide, ?_⟩ | refine ⟨by first | assumption | (unfold vp_in; decide) | ((with_reducible (refine vp_in_nI ?_ ?_)) <;> omega), ?_⟩ | fail)
      exact h1 S3 R3 (((ScX.f7 (F1.tr F2)).y).tr (ScY.fr F3))
    · rw [if_pos (Int32.not_le.mp (by assumption))] at h1
      refine X4_ref H (ScX.f7 (F1.tr F2)) (k := 6) (by omega) (by omega) (by decide) (fun S' hS' => ?_)
      repeat' (first | (refine Rules.st H okX4_down [] ?_; conv => whnf) | refine br_t (by first | decide | assumption) ?_ | refine br_f (by first | decide | assumption) ?_ | refine br_c (fun _ => ?_) (fun _ => ?_) | refine ⟨by decide, ?_⟩ | refine ⟨by first | assumption | (unfold vp_in; decide) | ((with_reducible (refine vp_in_nI ?_ ?_)) <;> omega), ?_⟩ | fail)
      exact h1 S' (hS'.rep R (Or.inl rfl)) hS'.y
  · rw [if_neg (okM_neg hno)] at h1
    repeat' (first | (refine Rules.st H okX4_down [] ?_; conv => whnf) | refine br_t (by first | decide | assumption) ?_ | refine br_f (by first | decide | assumption) ?_ | refine br_c (fun _ => ?_) (fun _ => ?_) | refine ⟨by decide, ?_⟩ | refine ⟨by first | assumption | (unfold vp_in; decide) | ((with_reducible (refine vp_in_nI ?_ ?_)) <;> omega), ?_⟩ | fail)
    refine X4_ref H (ScX.rf) (k := 1) (by omega) (by omega) (by decide) (fun S' hS' => ?_)
    repeat' (first | (refine Rules.st H okX4_down [] ?_; conv => whnf) | refine br_t (by first | decide | assumption) ?_ | refine br_f (by first | decide | assumption) ?_ | refine br_c (fun _ => ?_) (fun _ => ?_) | refine ⟨by decide, ?_⟩ | refine ⟨by first | assumption | (unfold vp_in; decide) | ((with_reducible (refine vp_in_nI ?_ ?_)) <;> omega), ?_⟩ | fail)
    exact h1 S' (hS'.rep R (Or.inl rfl)) hS'.y
/-- a refusal that a helper tells: its kind -/
def kOf (e : Int32) : Nat := ix (-e)
set_option maxRecDepth 100000 in
theorem minF_k {n : Nat} {r t : Int32} : minF n r t = 0 ∨ (kOf (minF n r t) < 7 ∧ ¬ kOf (minF n r t) = 0 ∧ -(minF n r t) = nI (kOf (minF n r t))) := by
  unfold minF
  split
  · split
    · exact Or.inr (by decide)
    · split
      · exact Or.inr (by decide)
      · exact Or.inl rfl
  · exact Or.inr (by decide)
set_option maxRecDepth 100000 in
theorem minF_ok {n : Nat} (hn8 : n ≤ 8) {r t : Int32} (h : minF n r t = 0) : ∃ i, i < n ∧ r = nI i := by
  unfold minF at h
  split at h
  · next g => exact (okR_iff hn8).mp g
  · exact absurd h (by decide)
def F_out (K : Mem) (n : Nat) (r t : Int32) : Ans := if minF n r t = 0 then (0, if outK K (ix r) t = true then 1 else 0) else (kOf (minF n r t), minF n r t)
set_option maxRecDepth 100000 in
theorem X4_out (H : Rules C T) {S K : Mem} {n : Nat} (X : XK S K n) {r t : Int32} {Q : Pst} (h1 : AnsX S (F_out K n r t) Q) : C mX4_out [.ref 0, .int r, .int t] S Q := by
  obtain ⟨R, hn, hn8, hz⟩ := X
  unfold F_out at h1
  refine Rules.go H (by decide) (Nat.le_of_ble_eq_true rfl) ?_
  repeat' (first | (refine Rules.st H okX4_out [] ?_; conv => whnf) | refine br_t (by first | decide | assumption) ?_ | refine br_f (by first | decide | assumption) ?_ | refine br_c (fun _ => ?_) (fun _ => ?_) | refine ⟨by decide, ?_⟩ | refine ⟨by first | assumption | (unfold vp_in; decide) | ((with_reducible (refine vp_in_nI ?_ ?_)) <;> omega), ?_⟩ | fail)
  refine X4_minuteRefusal H hn8 R hn ?_
  repeat' (first | (refine Rules.st H okX4_out [] ?_; conv => whnf) | refine br_t (by first | decide | assumption) ?_ | refine br_f (by first | decide | assumption) ?_ | refine br_c (fun _ => ?_) (fun _ => ?_) | refine ⟨by decide, ?_⟩ | refine ⟨by first | assumption | (unfold vp_in; decide) | ((with_reducible (refine vp_in_nI ?_ ?_)) <;> omega), ?_⟩ | fail)
  · have g : minF n r t = 0 := by assumption
    obtain ⟨i, hi, e⟩ := minF_ok hn8 g
    rw [if_pos g] at h1
    subst e
    rw [show ix (nI i) = i from nIc (by omega)] at h1
    refine X1_guestOut H (Or.inl rfl) R (by omega) (fun g => ?_) (fun g => ?_)
    · rw [if_pos g] at h1
      repeat' (first | (refine Rules.st H okX4_out [] ?_; conv => whnf) | refine br_t (by first | decide | assumption) ?_ | refine br_f (by first | decide | assumption) ?_ | refine br_c (fun _ => ?_) (fun _ => ?_) | refine ⟨by decide, ?_⟩ | refine ⟨by first | assumption | (unfold vp_in; decide) | ((with_reducible (refine vp_in_nI ?_ ?_)) <;> omega), ?_⟩ | fail)
      exact h1 S ScX.rf
    · rw [if_neg (by rw [g]; decide)] at h1
      repeat' (first | (refine Rules.st H okX4_out [] ?_; conv => whnf) | refine br_t (by first | decide | assumption) ?_ | refine br_f (by first | decide | assumption) ?_ | refine br_c (fun _ => ?_) (fun _ => ?_) | refine ⟨by decide, ?_⟩ | refine ⟨by first | assumption | (unfold vp_in; decide) | ((with_reducible (refine vp_in_nI ?_ ?_)) <;> omega), ?_⟩ | fail)
      exact h1 S ScX.rf
  · have g : ¬ minF n r t = 0 := by assumption
    rw [if_neg g] at h1
    obtain ⟨k1, k2, k3⟩ := minF_k.resolve_left g
    refine X4_ref H ScX.rf k1 k2 k3 (fun S' hS' => ?_)
    repeat' (first | (refine Rules.st H okX4_out [] ?_; conv => whnf) | refine br_t (by first | decide | assumption) ?_ | refine br_f (by first | decide | assumption) ?_ | refine br_c (fun _ => ?_) (fun _ => ?_) | refine ⟨by decide, ?_⟩ | refine ⟨by first | assumption | (unfold vp_in; decide) | ((with_reducible (refine vp_in_nI ?_ ?_)) <;> omega), ?_⟩ | fail)
    exact h1 S' hS'
def nextK (K : Mem) (r : Nat) (t : Int32) : Nat → Nat → Int32
  | 0, _ => -9
  | k + 1, i => if outK K r (t + nI i) = true then t + nI i else nextK K r t k (i + 1)
set_option maxRecDepth 100000 in
theorem X4_nextOut_l (H : Rules C T) {S K : Mem} {n : Nat} (X : XK S K n) {r : Nat} (hr : r < n) {t x : Int32} {Q : Pst} : ∀ (k i : Nat), i + k = 61 → Q (some (.int (nextK K r t k i))) S → T mX4_nextOut Q 20 [some (.ref 0), some (.int (nI r)), some (.int t), some (.int x), some (.int (nI i))] [] S := by
  obtain ⟨R, hn, hn8, hz⟩ := X
  intro k
  induction k with
  | zero =>
    intro i hi h1
    have hge : (60 : Int32) < nI i := nI_lt (a := 60) (by omega) (by omega)
    skip
    repeat' (first | (refine Rules.st H okX4_nextOut [20] ?_; conv => whnf) | refine br_t (by first | decide | assumption) ?_ | refine br_f (by first | decide | assumption) ?_ | refine br_c (fun _ => ?_) (fun _ => ?_) | refine ⟨by decide, ?_⟩ | refine ⟨by first | assumption | (unfold vp_in; decide) | ((with_reducible (refine vp_in_nI ?_ ?_)) <;> omega), ?_⟩ | fail)
    exact h1
  | succ k ih =>
    intro i hi h1
    have hge : ¬ (60 : Int32) < nI i := nI_nlt (a := 60) (by omega) (by omega)
    unfold nextK at h1
    skip
    repeat' (first | (refine Rules.st H okX4_nextOut [20] ?_; conv => whnf) | refine br_t (by first | decide | assumption) ?_ | refine br_f (by first | decide | assumption) ?_ | refine br_c (fun _ => ?_) (fun _ => ?_) | refine ⟨by decide, ?_⟩ | refine ⟨by first | assumption | (unfold vp_in; decide) | ((with_reducible (refine vp_in_nI ?_ ?_)) <;> omega), ?_⟩ | fail)
    refine X1_guestOut H (Or.inl rfl) R (by omega) (fun g => ?_) (fun g => ?_)
    · rw [if_pos g] at h1
      repeat' (first | (refine Rules.st H okX4_nextOut [20] ?_; conv => whnf) | refine br_t (by first | decide | assumption) ?_ | refine br_f (by first | decide | assumption) ?_ | refine br_c (fun _ => ?_) (fun _ => ?_) | refine ⟨by decide, ?_⟩ | refine ⟨by first | assumption | (unfold vp_in; decide) | ((with_reducible (refine vp_in_nI ?_ ?_)) <;> omega), ?_⟩ | fail)
      exact h1
    · rw [if_neg (by rw [g]; decide)] at h1
      repeat' (first | (refine Rules.st H okX4_nextOut [20] ?_; conv => whnf) | refine br_t (by first | decide | assumption) ?_ | refine br_f (by first | decide | assumption) ?_ | refine br_c (fun _ => ?_) (fun _ => ?_) | refine ⟨by decide, ?_⟩ | refine ⟨by first | assumption | (unfold vp_in; decide) | ((with_reducible (refine vp_in_nI ?_ ?_)) <;> omega), ?_⟩ | fail)
      refine Halt.mk ?_
      show T mX4_nextOut Q 20 [some (.ref 0), some (.int (nI r)), some (.int t), some (.int x), some (.int (nI i + 1))] [] S
      rw [nI_1]
      exact ih (i + 1) (by omega) h1
def F_nextOut (K : Mem) (n : Nat) (r t : Int32) : Ans := if minF n r t = 0 then (0, nextK K (ix r) t 61 0) else (kOf (minF n r t), minF n r t)
set_option maxRecDepth 100000 in
theorem X4_nextOut (H : Rules C T) {S K : Mem} {n : Nat} (X : XK S K n) {r t : Int32} {Q : Pst} (h1 : AnsX S (F_nextOut K n r t) Q) : C mX4_nextOut [.ref 0, .int r, .int t] S Q := by
  have X0 := X
  obtain ⟨R, hn, hn8, hz⟩ := X
  unfold F_nextOut at h1
  refine Rules.go H (by decide) (Nat.le_of_ble_eq_true rfl) ?_
  repeat' (first | (refine Rules.st H okX4_nextOut [20] ?_; conv => whnf) | refine br_t (by first | decide | assumption) ?_ | refine br_f (by first | decide | assumption) ?_ | refine br_c (fun _ => ?_) (fun _ => ?_) | refine ⟨by decide, ?_⟩ | refine ⟨by first | assumption | (unfold vp_in; decide) | ((with_reducible (refine vp_in_nI ?_ ?_)) <;> omega), ?_⟩ | fail)
  refine X4_minuteRefusal H hn8 R hn ?_
  repeat' (first | (refine Rules.st H okX4_nextOut [20] ?_; conv => whnf) | refine br_t (by first | decide | assumption) ?_ | refine br_f (by first | decide | assumption) ?_ | refine br_c (fun _ => ?_) (fun _ => ?_) | refine ⟨by decide, ?_⟩ | refine ⟨by first | assumption | (unfold vp_in; decide) | ((with_reducible (refine vp_in_nI ?_ ?_)) <;> omega), ?_⟩ | fail)
  · have g : minF n r t = 0 := by assumption
    obtain ⟨i, hi, e⟩ := minF_ok hn8 g
    rw [if_pos g] at h1
    subst e
    rw [show ix (nI i) = i from nIc (by omega)] at h1
    exact Halt.mk (X4_nextOut_l H X0 hi 61 0 (by omega) (h1 S ScX.rf))
  · have g : ¬ minF n r t = 0 := by assumption
    rw [if_neg g] at h1
    obtain ⟨k1, k2, k3⟩ := minF_k.resolve_left g
    refine X4_ref H ScX.rf k1 k2 k3 (fun S' hS' => ?_)
    repeat' (first | (refine Rules.st H okX4_nextOut [20] ?_; conv => whnf) | refine br_t (by first | decide | assumption) ?_ | refine br_f (by first | decide | assumption) ?_ | refine br_c (fun _ => ?_) (fun _ => ?_) | refine ⟨by decide, ?_⟩ | refine ⟨by first | assumption | (unfold vp_in; decide) | ((with_reducible (refine vp_in_nI ?_ ?_)) <;> omega), ?_⟩ | fail)
    exact h1 S' hS'
def F_howLong (K : Mem) (n : Nat) (m r w : Int32) : Ans :=
  if okM m ∧ okR n r then if w < 0 ∨ 1 < w then (2, -2) else (0, if w = 0 then (visitK K (ix m) (ix r)).2 5 (ix m) - K 5 (ix m) else (visitK K (ix m) (ix r)).1) else (1, -1)
set_option maxRecDepth 100000 in
theorem X4_howLong (H : Rules C T) {S K : Mem} {n : Nat} (X : XK S K n) {m r w : Int32} {Q : Pst} (h1 : AnsX S (F_howLong K n m r w) Q) : C mX4_howLong [.ref 0, .int m, .int r, .int w] S Q := by
  obtain ⟨R, hn, hn8, hz⟩ := X
  unfold F_howLong at h1
  refine Rules.go H (by decide) (Nat.le_of_ble_eq_true rfl) ?_
  repeat' (first | (refine Rules.st H okX4_howLong [] ?_; conv => whnf) | refine br_t (by first | decide | assumption) ?_ | refine br_f (by first | decide | assumption) ?_ | refine br_c (fun _ => ?_) (fun _ => ?_) | refine ⟨by decide, ?_⟩ | refine ⟨by first | assumption | (unfold vp_in; decide) | ((with_reducible (refine vp_in_nI ?_ ?_)) <;> omega), ?_⟩ | fail)
  refine X1_hasMaid H (fun i hi e => ?_) (fun hno => ?_)
  · subst e
    rw [show ix (nI i) = i from nIc (by omega)] at h1
    repeat' (first | (refine Rules.st H okX4_howLong [] ?_; conv => whnf) | refine br_t (by first | decide | assumption) ?_ | refine br_f (by first | decide | assumption) ?_ | refine br_c (fun _ => ?_) (fun _ => ?_) | refine ⟨by decide, ?_⟩ | refine ⟨by first | assumption | (unfold vp_in; decide) | ((with_reducible (refine vp_in_nI ?_ ?_)) <;> omega), ?_⟩ | fail)
    refine X1_hasRoom H (Or.inl rfl) R hn hn8 (fun j hj e => ?_) (fun hno => ?_)
    · subst e
      rw [if_pos ⟨okM_nI hi, okR_nI hn8 hj⟩, show ix (nI j) = j from nIc (by omega)] at h1
      repeat' (first | (refine Rules.st H okX4_howLong [] ?_; conv => whnf) | refine br_t (by first | decide | assumption) ?_ | refine br_f (by first | decide | assumption) ?_ | refine br_c (fun _ => ?_) (fun _ => ?_) | refine ⟨by decide, ?_⟩ | refine ⟨by first | assumption | (unfold vp_in; decide) | ((with_reducible (refine vp_in_nI ?_ ?_)) <;> omega), ?_⟩ | fail)
      · rw [if_pos (Or.inl (by assumption))] at h1
        refine X4_ref H (ScX.rf) (k := 2) (by omega) (by omega) (by decide) (fun S' hS' => ?_)
        repeat' (first | (refine Rules.st H okX4_howLong [] ?_; conv => whnf) | refine br_t (by first | decide | assumption) ?_ | refine br_f (by first | decide | assumption) ?_ | refine br_c (fun _ => ?_) (fun _ => ?_) | refine ⟨by decide, ?_⟩ | refine ⟨by first | assumption | (unfold vp_in; decide) | ((with_reducible (refine vp_in_nI ?_ ?_)) <;> omega), ?_⟩ | fail)
        exact h1 S' hS'
      · rw [if_neg (fun z => z.elim (by assumption) (Int32.not_lt.mpr (by assumption)))] at h1
        refine X4_think H R hz (fun S1 R1 F1 => ?_)
        repeat' (first | (refine Rules.st H okX4_howLong [] ?_; conv => whnf) | refine br_t (by first | decide | assumption) ?_ | refine br_f (by first | decide | assumption) ?_ | refine br_c (fun _ => ?_) (fun _ => ?_) | refine ⟨by decide, ?_⟩ | refine ⟨by first | assumption | (unfold vp_in; decide) | ((with_reducible (refine vp_in_nI ?_ ?_)) <;> omega), ?_⟩ | fail)
        refine X1_visitBy H (Or.inr (Or.inl rfl)) R1 hi (by omega) (fun S2 R2 F2 => ?_)
        repeat' (first | (refine Rules.st H okX4_howLong [] ?_; conv => whnf) | refine br_t (by first | decide | assumption) ?_ | refine br_f (by first | decide | assumption) ?_ | refine br_c (fun _ => ?_) (fun _ => ?_) | refine ⟨by decide, ?_⟩ | refine ⟨by first | assumption | (unfold vp_in; decide) | ((with_reducible (refine vp_in_nI ?_ ?_)) <;> omega), ?_⟩ | fail)
        · rw [if_pos (by assumption)] at h1
          refine X4_thoughtMinutes H (R.fr (F1.tr F2) (by omega)) R2 hi ?_
          repeat' (first | (refine Rules.st H okX4_howLong [] ?_; conv => whnf) | refine br_t (by first | decide | assumption) ?_ | refine br_f (by first | decide | assumption) ?_ | refine br_c (fun _ => ?_) (fun _ => ?_) | refine ⟨by decide, ?_⟩ | refine ⟨by first | assumption | (unfold vp_in; decide) | ((with_reducible (refine vp_in_nI ?_ ?_)) <;> omega), ?_⟩ | fail)
          exact h1 S2 (ScX.f7 (F1.tr F2))
        · rw [if_neg (by assumption)] at h1
          exact h1 S2 (ScX.f7 (F1.tr F2))
      · rw [if_pos (Or.inr (Int32.not_le.mp (by assumption)))] at h1
        refine X4_ref H (ScX.rf) (k := 2) (by omega) (by omega) (by decide) (fun S' hS' => ?_)
        repeat' (first | (refine Rules.st H okX4_howLong [] ?_; conv => whnf) | refine br_t (by first | decide | assumption) ?_ | refine br_f (by first | decide | assumption) ?_ | refine br_c (fun _ => ?_) (fun _ => ?_) | refine ⟨by decide, ?_⟩ | refine ⟨by first | assumption | (unfold vp_in; decide) | ((with_reducible (refine vp_in_nI ?_ ?_)) <;> omega), ?_⟩ | fail)
        exact h1 S' hS'
    · rw [if_neg (fun z => okR_neg hn8 hno z.2)] at h1
      repeat' (first | (refine Rules.st H okX4_howLong [] ?_; conv => whnf) | refine br_t (by first | decide | assumption) ?_ | refine br_f (by first | decide | assumption) ?_ | refine br_c (fun _ => ?_) (fun _ => ?_) | refine ⟨by decide, ?_⟩ | refine ⟨by first | assumption | (unfold vp_in; decide) | ((with_reducible (refine vp_in_nI ?_ ?_)) <;> omega), ?_⟩ | fail)
      refine X4_ref H (ScX.rf) (k := 1) (by omega) (by omega) (by decide) (fun S' hS' => ?_)
      repeat' (first | (refine Rules.st H okX4_howLong [] ?_; conv => whnf) | refine br_t (by first | decide | assumption) ?_ | refine br_f (by first | decide | assumption) ?_ | refine br_c (fun _ => ?_) (fun _ => ?_) | refine ⟨by decide, ?_⟩ | refine ⟨by first | assumption | (unfold vp_in; decide) | ((with_reducible (refine vp_in_nI ?_ ?_)) <;> omega), ?_⟩ | fail)
      exact h1 S' hS'
  · rw [if_neg (fun z => okM_neg hno z.1)] at h1
    repeat' (first | (refine Rules.st H okX4_howLong [] ?_; conv => whnf) | refine br_t (by first | decide | assumption) ?_ | refine br_f (by first | decide | assumption) ?_ | refine br_c (fun _ => ?_) (fun _ => ?_) | refine ⟨by decide, ?_⟩ | refine ⟨by first | assumption | (unfold vp_in; decide) | ((with_reducible (refine vp_in_nI ?_ ?_)) <;> omega), ?_⟩ | fail)
    refine X4_ref H (ScX.rf) (k := 1) (by omega) (by omega) (by decide) (fun S' hS' => ?_)
    repeat' (first | (refine Rules.st H okX4_howLong [] ?_; conv => whnf) | refine br_t (by first | decide | assumption) ?_ | refine br_f (by first | decide | assumption) ?_ | refine br_c (fun _ => ?_) (fun _ => ?_) | refine ⟨by decide, ?_⟩ | refine ⟨by first | assumption | (unfold vp_in; decide) | ((with_reducible (refine vp_in_nI ?_ ?_)) <;> omega), ?_⟩ | fail)
    exact h1 S' hS'
end X5
