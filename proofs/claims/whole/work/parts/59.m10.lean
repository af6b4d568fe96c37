section M10
variable {C : Cst} {T : Nat → Pst → Nat → Lcs → List Value → Mem → Prop}
set_option maxRecDepth 100000 in
theorem RepM.o {S K : Mem} {d : Int32} {a j : Nat} {v : Int32} (R : RepM S K d) (h : ¬ inM a j) : RepM (up S a j v) K d := fun b i hi => by
  unfold up
  rw [if_neg (by
    rintro ⟨rfl, rfl⟩
    exact h hi)]
  exact R b i hi
set_option maxRecDepth 100000 in
theorem ScMY.put {S : Mem} {a j : Nat} {v : Int32} (h : scrM a j) : ScMY 0 S (up S a j v) := fun b i hs _ => by
  rw [if_neg (fun z => z.2.2 rfl)]
  unfold up
  rw [if_neg (by
    rintro ⟨rfl, rfl⟩
    exact hs h)]
set_option maxRecDepth 100000 in
theorem ScMY.tr {k : Nat} {S S1 S2 : Mem} (h1 : ScMY 0 S S1) (h2 : ScMY k S1 S2) : ScMY k S S2 := fun a j h3 h4 => by
  have e := h1 a j h3 h4
  rw [if_neg (fun z => z.2.2 rfl)] at e
  rw [h2 a j h3 h4, e]
set_option maxRecDepth 100000 in
theorem KeptM.put {w a j : Nat} {v : Int32} {S S0 : Mem} (k : KeptM w S S0) (h : ¬ a = 38) : KeptM w (up S a j v) S0 := fun i hi => by
  rw [up_k (fun z => h z.symm)]
  exact k i hi
set_option maxRecDepth 100000 in
theorem X5_visitThought (H : Rules C T) {S K : Mem} {d : Int32} {n : Nat} (R : RepM S K d) (g : Gd K n) {m r : Nat} (hm : m < 2) (hr : r < n) {w : Int32} {Q : Pst} (h1 : ∀ S', ScM 0 S S' → S' 25 23 = (visitK (passK K m w) m r).2 5 m - K 5 m → Q (some (.int (visitK (passK K m w) m r).1)) S') : C mX5_visitThought [.ref 25, .int (nI m), .int (nI r), .int w] S Q := by
  have cm : (nI m).toNatClampNeg = m := nIc (by omega)
  refine Rules.go H (by decide) (Nat.le_of_ble_eq_true rfl) ?_
  repeat' (first | (refine Rules.st H okX5_visitThought [] ?_; conv => whnf) | refine br_t (by first | decide | assumption) ?_ | refine br_f (by first | decide | assumption) ?_ | refine br_c (fun _ => ?_) (fun _ => ?_) | refine ⟨by decide, ?_⟩ | refine ⟨by first | assumption | (unfold vp_in; decide) | ((with_reducible (refine vp_in_nI ?_ ?_)) <;> omega), ?_⟩ | fail)
  refine X5_minds H (fun S1 k1 f1 => ?_)
  have R1 := R.frP f1
  repeat' (first | (refine Rules.st H okX5_visitThought [] ?_; conv => whnf) | refine br_t (by first | decide | assumption) ?_ | refine br_f (by first | decide | assumption) ?_ | refine br_c (fun _ => ?_) (fun _ => ?_) | refine ⟨by decide, ?_⟩ | refine ⟨by first | assumption | (unfold vp_in; decide) | ((with_reducible (refine vp_in_nI ?_ ?_)) <;> omega), ?_⟩ | fail)
  rw [cm, R1.ck hm]
  have R2 := R1.put3 (o := 5) (j := m) (v := K 5 m + w) (by omega) (by omega)
  have F2 : FrM S1 (up S1 33 m (K 5 m + w)) := FrM.put (by unfold inM; omega)
  have R2 : RepM (up S1 33 m (K 5 m + w)) (passK K m w) d := R2
  generalize up S1 33 m _ = S2 at R2 F2 ⊢
  refine X5_visit H R2 g.pass hm hr (fun S3 R3 F3 => ?_)
  repeat' (first | (refine Rules.st H okX5_visitThought [] ?_; conv => whnf) | refine br_t (by first | decide | assumption) ?_ | refine br_f (by first | decide | assumption) ?_ | refine br_c (fun _ => ?_) (fun _ => ?_) | refine ⟨by decide, ?_⟩ | refine ⟨by first | assumption | (unfold vp_in; decide) | ((with_reducible (refine vp_in_nI ?_ ?_)) <;> omega), ?_⟩ | fail)
  rw [cm, R3.ck hm]
  have F4 : ScMY 0 S1 (up S3 25 23 ((visitK (passK K m w) m r).2 5 m - K 5 m)) := (ScMY.fr (F2.tr F3)).tr (ScMY.put (by unfold scrM; omega))
  have k4 : KeptM 2 (up S3 25 23 ((visitK (passK K m w) m r).2 5 m - K 5 m)) S := ((k1.fr F2).fr F3).put (by omega)
  have R4 := R3.o (a := 25) (j := 23) (v := (visitK (passK K m w) m r).2 5 m - K 5 m) (by unfold inM; omega)
  have e23 : up S3 25 23 ((visitK (passK K m w) m r).2 5 m - K 5 m) 25 23 = (visitK (passK K m w) m r).2 5 m - K 5 m := up_at
  generalize up S3 25 23 _ = S4 at F4 k4 R4 e23 ⊢
  refine X5_forgets H k4 (fun S5 b1 b2 => ?_)
  have s5 : ScM 0 S S5 := back (by omega) f1 F4 (by rw [R4.st, R.st, visitK_s, passK_s]) b1 b2
  repeat' (first | (refine Rules.st H okX5_visitThought [] ?_; conv => whnf) | refine br_t (by first | decide | assumption) ?_ | refine br_f (by first | decide | assumption) ?_ | refine br_c (fun _ => ?_) (fun _ => ?_) | refine ⟨by decide, ?_⟩ | refine ⟨by first | assumption | (unfold vp_in; decide) | ((with_reducible (refine vp_in_nI ?_ ?_)) <;> omega), ?_⟩ | fail)
  exact h1 S5 s5 (by rw [b2 25 23 (by unfold inP; omega) (by omega), e23])
set_option maxRecDepth 100000 in
theorem passK_0 (K : Mem) (m : Nat) : passK K m 0 = K := by
  funext a j
  unfold passK up
  split
  · next q => rw [q.1, q.2, Int32.add_zero]
  · rfl
set_option maxRecDepth 100000 in
theorem X5_howLong (H : Rules C T) {S K : Mem} {n : Nat} (X : XM S K n) {m r w : Int32} {Q : Pst} (h1 : AnsM S (F_howLong K n m r w) Q) : C mX5_howLong [.ref 25, .int m, .int r, .int w] S Q := by
  obtain ⟨⟨d, R⟩, g, hz⟩ := X
  have hn8 := g.2.1
  unfold F_howLong at h1
  refine Rules.go H (by decide) (Nat.le_of_ble_eq_true rfl) ?_
  repeat' (first | (refine Rules.st H okX5_howLong [] ?_; conv => whnf) | refine br_t (by first | decide | assumption) ?_ | refine br_f (by first | decide | assumption) ?_ | refine br_c (fun _ => ?_) (fun _ => ?_) | refine ⟨by decide, ?_⟩ | refine ⟨by first | assumption | (unfold vp_in; decide) | ((with_reducible (refine vp_in_nI ?_ ?_)) <;> omega), ?_⟩ | fail)
  refine X5_isMaid H (fun i hi e => ?_) (fun hno => ?_)
  · subst e
    rw [show ix (nI i) = i from nIc (by omega)] at h1
    repeat' (first | (refine Rules.st H okX5_howLong [] ?_; conv => whnf) | refine br_t (by first | decide | assumption) ?_ | refine br_f (by first | decide | assumption) ?_ | refine br_c (fun _ => ?_) (fun _ => ?_) | refine ⟨by decide, ?_⟩ | refine ⟨by first | assumption | (unfold vp_in; decide) | ((with_reducible (refine vp_in_nI ?_ ?_)) <;> omega), ?_⟩ | fail)
    refine X5_isRoom H (R.rm.trans g.1) hn8 (fun j hj e => ?_) (fun hno => ?_)
    · subst e
      rw [if_pos ⟨okM_nI hi, okR_nI hn8 hj⟩, show ix (nI j) = j from nIc (by omega)] at h1
      repeat' (first | (refine Rules.st H okX5_howLong [] ?_; conv => whnf) | refine br_t (by first | decide | assumption) ?_ | refine br_f (by first | decide | assumption) ?_ | refine br_c (fun _ => ?_) (fun _ => ?_) | refine ⟨by decide, ?_⟩ | refine ⟨by first | assumption | (unfold vp_in; decide) | ((with_reducible (refine vp_in_nI ?_ ?_)) <;> omega), ?_⟩ | fail)
      refine X5_isIn H (fun q1 q2 => ?_) (fun q => ?_)
      · rw [if_neg (fun z => z.elim (Int32.not_lt.mpr q1) (Int32.not_lt.mpr q2))] at h1
        repeat' (first | (refine Rules.st H okX5_howLong [] ?_; conv => whnf) | refine br_t (by first | decide | assumption) ?_ | refine br_f (by first | decide | assumption) ?_ | refine br_c (fun _ => ?_) (fun _ => ?_) | refine ⟨by decide, ?_⟩ | refine ⟨by first | assumption | (unfold vp_in; decide) | ((with_reducible (refine vp_in_nI ?_ ?_)) <;> omega), ?_⟩ | fail)
        refine X5_visitThought H R g hi hj (fun S1 s1 e23 => ?_)
        rw [passK_0] at e23 ⊢
        by_cases q : w = 0
        · rw [if_pos q] at h1
          repeat' (first | (refine Rules.st H okX5_howLong [] ?_; conv => whnf) | refine br_t (by first | decide | assumption) ?_ | refine br_f (by first | decide | assumption) ?_ | refine br_c (fun _ => ?_) (fun _ => ?_) | refine ⟨by decide, ?_⟩ | refine ⟨by first | assumption | (unfold vp_in; decide) | ((with_reducible (refine vp_in_nI ?_ ?_)) <;> omega), ?_⟩ | fail)
          rw [e23]
          exact h1 S1 s1
        · rw [if_neg q] at h1
          repeat' (first | (refine Rules.st H okX5_howLong [] ?_; conv => whnf) | refine br_t (by first | decide | assumption) ?_ | refine br_f (by first | decide | assumption) ?_ | refine br_c (fun _ => ?_) (fun _ => ?_) | refine ⟨by decide, ?_⟩ | refine ⟨by first | assumption | (unfold vp_in; decide) | ((with_reducible (refine vp_in_nI ?_ ?_)) <;> omega), ?_⟩ | fail)
          exact h1 S1 s1
      · rw [if_pos (by
          by_cases q1 : 0 ≤ w
          · exact Or.inr (Int32.not_le.mp (fun z => q ⟨q1, z⟩))
          · exact Or.inl (Int32.not_le.mp q1))] at h1
        repeat' (first | (refine Rules.st H okX5_howLong [] ?_; conv => whnf) | refine br_t (by first | decide | assumption) ?_ | refine br_f (by first | decide | assumption) ?_ | refine br_c (fun _ => ?_) (fun _ => ?_) | refine ⟨by decide, ?_⟩ | refine ⟨by first | assumption | (unfold vp_in; decide) | ((with_reducible (refine vp_in_nI ?_ ?_)) <;> omega), ?_⟩ | fail)
        refine X5_no H ScM.rf (k := 2) (by omega) (by omega) (by decide) (fun S' hS' => ?_)
        repeat' (first | (refine Rules.st H okX5_howLong [] ?_; conv => whnf) | refine br_t (by first | decide | assumption) ?_ | refine br_f (by first | decide | assumption) ?_ | refine br_c (fun _ => ?_) (fun _ => ?_) | refine ⟨by decide, ?_⟩ | refine ⟨by first | assumption | (unfold vp_in; decide) | ((with_reducible (refine vp_in_nI ?_ ?_)) <;> omega), ?_⟩ | fail)
        exact h1 S' hS'
    · rw [if_neg (fun z => okR_neg hn8 hno z.2)] at h1
      repeat' (first | (refine Rules.st H okX5_howLong [] ?_; conv => whnf) | refine br_t (by first | decide | assumption) ?_ | refine br_f (by first | decide | assumption) ?_ | refine br_c (fun _ => ?_) (fun _ => ?_) | refine ⟨by decide, ?_⟩ | refine ⟨by first | assumption | (unfold vp_in; decide) | ((with_reducible (refine vp_in_nI ?_ ?_)) <;> omega), ?_⟩ | fail)
      refine X5_no H ScM.rf (k := 1) (by omega) (by omega) (by decide) (fun S' hS' => ?_)
      repeat' (first | (refine Rules.st H okX5_howLong [] ?_; conv => whnf) | refine br_t (by first | decide | assumption) ?_ | refine br_f (by first | decide | assumption) ?_ | refine br_c (fun _ => ?_) (fun _ => ?_) | refine ⟨by decide, ?_⟩ | refine ⟨by first | assumption | (unfold vp_in; decide) | ((with_reducible (refine vp_in_nI ?_ ?_)) <;> omega), ?_⟩ | fail)
      exact h1 S' hS'
  · rw [if_neg (fun z => okM_neg hno z.1)] at h1
    repeat' (first | (refine Rules.st H okX5_howLong [] ?_; conv => whnf) | refine br_t (by first | decide | assumption) ?_ | refine br_f (by first | decide | assumption) ?_ | refine br_c (fun _ => ?_) (fun _ => ?_) | refine ⟨by decide, ?_⟩ | refine ⟨by first | assumption | (unfold vp_in; decide) | ((with_reducible (refine vp_in_nI ?_ ?_)) <;> omega), ?_⟩ | fail)
    refine X5_no H ScM.rf (k := 1) (by omega) (by omega) (by decide) (fun S' hS' => ?_)
    repeat' (first | (refine Rules.st H okX5_howLong [] ?_; conv => whnf) | refine br_t (by first | decide | assumption) ?_ | refine br_f (by first | decide | assumption) ?_ | refine br_c (fun _ => ?_) (fun _ => ?_) | refine ⟨by decide, ?_⟩ | refine ⟨by first | assumption | (unfold vp_in; decide) | ((with_reducible (refine vp_in_nI ?_ ?_)) <;> omega), ?_⟩ | fail)
    exact h1 S' hS'
end M10
