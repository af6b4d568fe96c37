section M12
variable {C : Cst} {T : Nat → Pst → Nat → Lcs → List Value → Mem → Prop}
set_option maxRecDepth 100000 in
theorem lngK_s (m : Nat) : ∀ (k i : Nat) (K : Mem), lngK m k i K 0 3 = K 0 3
  | 0, _, _ => rfl
  | k + 1, i, K => by
    unfold lngK
    rw [lngK_s, visitK_s]
set_option maxRecDepth 100000 in
theorem ScM.puts {S S' : Mem} {a j : Nat} {v : Int32} (h : scrM a j) (F : ScM 0 (up S a j v) S') : ScM 0 S S' := fun b i hs => by
  rw [F b i hs, if_neg (fun z => z.2.2 rfl), if_neg (fun z => z.2.2 rfl)]
  unfold up
  rw [if_neg (by
    rintro ⟨rfl, rfl⟩
    exact hs h)]
set_option maxRecDepth 100000 in
theorem RepM.zero {S K : Mem} {d : Int32} (R : RepM S K d) (h4 : K 0 4 = 0) : RepM (up S 25 22 0) K 0 := fun a j hi => by
  by_cases q : a = 25 ∧ j = 22
  · obtain ⟨rfl, rfl⟩ := q
    rw [up_at, mv25, if_neg (by omega), if_neg (by omega), h4]
    decide
  · have e : up S 25 22 0 a j = S a j := by
      unfold up
      rw [if_neg q]
    rw [e, R a j hi]
    unfold inM at hi
    rcases hi with ⟨rfl, hi⟩ | ⟨rfl | rfl | rfl | rfl, hb⟩ | ⟨hb, hj⟩
    · rw [mv25, mv25]
      rcases hi with rfl | rfl | rfl
      · rw [if_pos rfl, if_pos rfl]
      · rw [if_neg (by omega), if_pos rfl, if_neg (by omega), if_pos rfl]
      · omega
    · rw [mv27, mv27]
    · rw [mv28, mv28]
    · rw [mv29, mv29]
    · rw [mv30, mv30]
    · rw [mv31 _ _ _ (by omega), mv31 _ _ _ (by omega)]
set_option maxRecDepth 100000 in
theorem X5_longMinutes (H : Rules C T) {S K : Mem} {d : Int32} {n m : Nat} (hm : m < 2) (R : RepM S K d) (g : Gd K n) (h4 : K 0 4 = 0) {Q : Pst} (h1 : ∀ S', ScM 0 S S' → S' 25 22 = longK m n K 0 4 → S' 25 32 = pcI (longK m n K 0 1) → S' 25 33 = firstK K m n 0 K → Q (some (.int (longK m n K 5 m - K 5 m))) S') : C mX5_longMinutes [.ref 25, .int (nI m)] S Q := by
  have h8 := g.2.1
  rw [longK_lng h8] at h1
  have cm : (nI m).toNatClampNeg = m := nIc (by omega)
  have e33 : S 33 m = K 5 m := R.ck hm
  refine Rules.go H (by decide) (Nat.le_of_ble_eq_true rfl) ?_
  repeat' (first | (refine Rules.st H okX5_longMinutes [24] ?_; conv => whnf) | refine br_t (by first | decide | assumption) ?_ | refine br_f (by first | decide | assumption) ?_ | refine br_c (fun _ => ?_) (fun _ => ?_) | refine ⟨by decide, ?_⟩ | refine ⟨by first | assumption | (unfold vp_in; decide) | ((with_reducible (refine vp_in_nI ?_ ?_)) <;> omega), ?_⟩ | fail)
  rw [cm, e33]
  have R1 : RepM (up S 25 33 (-9)) K d := R.o (by unfold inM; omega)
  have R2 := R1.zero h4
  have s33 : up (up S 25 33 (-9)) 25 22 0 25 33 = -9 := by rw [up_j (by omega), up_at]
  have put : ∀ S', ScM 0 (up (up S 25 33 (-9)) 25 22 0) S' → ScM 0 S S' := fun S' F => (F.puts (by unfold scrM; omega)).puts (by unfold scrM; omega)
  generalize up (up S 25 33 (-9)) 25 22 0 = S2 at R2 s33 put ⊢
  refine X5_minds H (fun S3 k3 f3 => ?_)
  have R3 := R2.frP f3
  have s3 : S3 25 33 = -9 := by rw [f3 25 33 (by omega) (by omega)]; exact s33
  repeat' (first | (refine Rules.st H okX5_longMinutes [24] ?_; conv => whnf) | refine br_t (by first | decide | assumption) ?_ | refine br_f (by first | decide | assumption) ?_ | refine br_c (fun _ => ?_) (fun _ => ?_) | refine ⟨by decide, ?_⟩ | refine ⟨by first | assumption | (unfold vp_in; decide) | ((with_reducible (refine vp_in_nI ?_ ?_)) <;> omega), ?_⟩ | fail)
  refine Halt.mk ?_
  refine X5_longMinutes_l H (K0 := K) (d := 0) hm n 0 S3 K none (by omega) R3 g (fun _ => rfl) (Or.inl s3) (fun S4 y4 R4 F4 e38 ef => ?_)
  skip
  repeat' (first | (refine Rules.st H okX5_longMinutes [] ?_; conv => whnf) | refine br_t (by first | decide | assumption) ?_ | refine br_f (by first | decide | assumption) ?_ | refine br_c (fun _ => ?_) (fun _ => ?_) | refine ⟨by decide, ?_⟩ | refine ⟨by first | assumption | (unfold vp_in; decide) | ((with_reducible (refine vp_in_nI ?_ ?_)) <;> omega), ?_⟩ | fail)
  rw [cm, R4.ck hm]
  have G := g.lng (m := m) (k := n) (i := 0) (by omega)
  refine X5_manyDone H R4 G ?_
  repeat' (first | (refine Rules.st H okX5_longMinutes [] ?_; conv => whnf) | refine br_t (by first | decide | assumption) ?_ | refine br_f (by first | decide | assumption) ?_ | refine br_c (fun _ => ?_) (fun _ => ?_) | refine ⟨by decide, ?_⟩ | refine ⟨by first | assumption | (unfold vp_in; decide) | ((with_reducible (refine vp_in_nI ?_ ?_)) <;> omega), ?_⟩ | fail)
  have F5 : ScMY 0 S3 (up S4 25 32 (pcI (lngK m n 0 K 0 1))) := F4.tr (ScMY.put (by unfold scrM; omega))
  have k5 : KeptM 2 (up S4 25 32 (pcI (lngK m n 0 K 0 1))) S2 := fun j hj => by
    rw [up_k (by omega), e38]
    exact k3 j hj
  have R5 := R4.o (a := 25) (j := 32) (v := pcI (lngK m n 0 K 0 1)) (by unfold inM; omega)
  have e32 : up S4 25 32 (pcI (lngK m n 0 K 0 1)) 25 32 = pcI (lngK m n 0 K 0 1) := up_at
  have e335 : up S4 25 32 (pcI (lngK m n 0 K 0 1)) 25 33 = firstK K m n 0 K := by
    rw [up_j (by omega), ef, s3]
    unfold frsK
    rw [if_pos (by decide)]
  generalize up S4 25 32 _ = S5 at F5 k5 R5 e32 e335 ⊢
  refine X5_forgets H k5 (fun S6 b1 b2 => ?_)
  have s6 : ScM 0 S2 S6 := back (by omega) f3 F5 (by rw [R5.st, R2.st, lngK_s]) b1 b2
  repeat' (first | (refine Rules.st H okX5_longMinutes [] ?_; conv => whnf) | refine br_t (by first | decide | assumption) ?_ | refine br_f (by first | decide | assumption) ?_ | refine br_c (fun _ => ?_) (fun _ => ?_) | refine ⟨by decide, ?_⟩ | refine ⟨by first | assumption | (unfold vp_in; decide) | ((with_reducible (refine vp_in_nI ?_ ?_)) <;> omega), ?_⟩ | fail)
  exact h1 S6 (put S6 s6) (by rw [b2 25 22 (by unfold inP; omega) (by omega), R5.dn, Int32.zero_add]) (by rw [b2 25 32 (by unfold inP; omega) (by omega), e32]) (by rw [b2 25 33 (by unfold inP; omega) (by omega), e335])
set_option maxRecDepth 100000 in
theorem X5_first (H : Rules C T) {S K : Mem} {n : Nat} (X : XM S K n) {m : Int32} {Q : Pst} (h1 : AnsM S (F_first K n m) Q) : C mX5_first [.ref 25, .int m] S Q := by
  obtain ⟨⟨d, R⟩, g, hz⟩ := X
  unfold F_first at h1
  refine Rules.go H (by decide) (Nat.le_of_ble_eq_true rfl) ?_
  repeat' (first | (refine Rules.st H okX5_first [] ?_; conv => whnf) | refine br_t (by first | decide | assumption) ?_ | refine br_f (by first | decide | assumption) ?_ | refine br_c (fun _ => ?_) (fun _ => ?_) | refine ⟨by decide, ?_⟩ | refine ⟨by first | assumption | (unfold vp_in; decide) | ((with_reducible (refine vp_in_nI ?_ ?_)) <;> omega), ?_⟩ | fail)
  refine X5_isMaid H (fun i hi e => ?_) (fun hno => ?_)
  · subst e
    rw [if_pos (okM_nI hi), show ix (nI i) = i from nIc (by omega)] at h1
    repeat' (first | (refine Rules.st H okX5_first [] ?_; conv => whnf) | refine br_t (by first | decide | assumption) ?_ | refine br_f (by first | decide | assumption) ?_ | refine br_c (fun _ => ?_) (fun _ => ?_) | refine ⟨by decide, ?_⟩ | refine ⟨by first | assumption | (unfold vp_in; decide) | ((with_reducible (refine vp_in_nI ?_ ?_)) <;> omega), ?_⟩ | fail)
    refine X5_longMinutes H hi R g hz.2 (fun S1 s1 _ _ e => ?_)
    repeat' (first | (refine Rules.st H okX5_first [] ?_; conv => whnf) | refine br_t (by first | decide | assumption) ?_ | refine br_f (by first | decide | assumption) ?_ | refine br_c (fun _ => ?_) (fun _ => ?_) | refine ⟨by decide, ?_⟩ | refine ⟨by first | assumption | (unfold vp_in; decide) | ((with_reducible (refine vp_in_nI ?_ ?_)) <;> omega), ?_⟩ | fail)
    rw [e]
    exact h1 S1 s1
  · rw [if_neg (okM_neg hno)] at h1
    repeat' (first | (refine Rules.st H okX5_first [] ?_; conv => whnf) | refine br_t (by first | decide | assumption) ?_ | refine br_f (by first | decide | assumption) ?_ | refine br_c (fun _ => ?_) (fun _ => ?_) | refine ⟨by decide, ?_⟩ | refine ⟨by first | assumption | (unfold vp_in; decide) | ((with_reducible (refine vp_in_nI ?_ ?_)) <;> omega), ?_⟩ | fail)
    refine X5_no H ScM.rf (k := 1) (by omega) (by omega) (by decide) (fun S' hS' => ?_)
    repeat' (first | (refine Rules.st H okX5_first [] ?_; conv => whnf) | refine br_t (by first | decide | assumption) ?_ | refine br_f (by first | decide | assumption) ?_ | refine br_c (fun _ => ?_) (fun _ => ?_) | refine ⟨by decide, ?_⟩ | refine ⟨by first | assumption | (unfold vp_in; decide) | ((with_reducible (refine vp_in_nI ?_ ?_)) <;> omega), ?_⟩ | fail)
    exact h1 S' hS'
end M12
