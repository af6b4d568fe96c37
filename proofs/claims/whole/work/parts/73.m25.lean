section M25
variable {C : Cst} {T : Nat → Pst → Nat → Lcs → List Value → Mem → Prop}
set_option maxRecDepth 100000 in
theorem upup (S : Mem) (a j : Nat) (v w : Int32) : up (up S a j v) a j w = up S a j w := by
  funext b i
  unfold up
  split
  · rfl
  · rfl
/-- one place aside -/
def ScA (a j : Nat) (S S1 : Mem) : Prop := ∀ c i, ¬ scrM c i → ¬ (c = a ∧ i = j) → S1 c i = S c i
set_option maxRecDepth 100000 in
theorem ScA.back {a j : Nat} {S S1 : Mem} (h : ScA a j S S1) : ScM 0 S (up S1 a j (S a j)) := fun c i hs => by
  rw [if_neg (fun z => z.2.2 rfl)]
  unfold up
  by_cases q : c = a ∧ i = j
  · rw [if_pos q, q.1, q.2]
  · rw [if_neg q]
    exact h c i hs q
set_option maxRecDepth 100000 in
theorem ScA.of {a j : Nat} {S S1 : Mem} (h : ScM 0 S S1) : ScA a j S S1 := fun _ _ hs _ => h.at hs
set_option maxRecDepth 100000 in
theorem ScA.put {a j : Nat} {S S1 S2 : Mem} {v : Int32} (h : ScA a j S S1) (F : ScM 0 (up S1 a j v) S2) : ScA a j S S2 := fun c i hs hn => by
  rw [F.at hs]
  unfold up
  rw [if_neg hn]
  exact h c i hs hn
set_option maxRecDepth 100000 in
theorem X5_leastLoad_e (H : Rules C T) {S S1 : Mem} {m : Nat} (hm : m < 2) (A : ScA 32 m S S1) {le v : Int32} (hx : 6 < v ∨ 0 ≤ le) {Q : Pst} (h1 : ∀ S2, ScM 0 S S2 → Q (some (.int le)) S2) : T mX5_leastLoad Q 26 [some (.ref 25), some (.int (nI m)), some (.int (S 32 m)), some (.int le), some (.int v)] [] S1 := by
  have h1 := h1 _ A.back
  have h1 : Q (some (.int le)) (up S1 32 (nI m).toNatClampNeg (S 32 m)) := by rw [nIc (by omega)]; exact h1
  by_cases q : 6 < v
  · skip
    repeat' (first | (refine Rules.st H okX5_leastLoad [] ?_; (conv => whnf); try (show T _ _ _ [_, _, _, _, _] _ _)) | refine br_t (by first | decide | assumption) ?_ | refine br_f (by first | decide | assumption) ?_ | refine br_c (fun _ => ?_) (fun _ => ?_) | refine ⟨by decide, ?_⟩ | refine ⟨by first | assumption | (unfold vp_in; decide) | ((with_reducible (refine vp_in_nI ?_ ?_)) <;> omega), ?_⟩ | fail)
    exact h1
  · have q2 : 0 ≤ le := hx.resolve_left q
    skip
    repeat' (first | (refine Rules.st H okX5_leastLoad [] ?_; (conv => whnf); try (show T _ _ _ [_, _, _, _, _] _ _)) | refine br_t (by first | decide | assumption) ?_ | refine br_f (by first | decide | assumption) ?_ | refine br_c (fun _ => ?_) (fun _ => ?_) | refine ⟨by decide, ?_⟩ | refine ⟨by first | assumption | (unfold vp_in; decide) | ((with_reducible (refine vp_in_nI ?_ ?_)) <;> omega), ?_⟩ | fail)
    exact h1
set_option maxRecDepth 100000 in
theorem X5_leastLoad_l (H : Rules C T) {S K : Mem} {n m : Nat} (hm : m < 2) (X : XM S K n) {Q : Pst} : ∀ (k i : Nat) (S1 : Mem), i + k = 7 → ScA 32 m S S1 → (∀ S2, ScM 0 S S2 → Q (some (.int (leastK K n m k i))) S2) → T mX5_leastLoad Q 26 [some (.ref 25), some (.int (nI m)), some (.int (S 32 m)), some (.int (-9)), some (.int (nI i))] [] S1 := by
  obtain ⟨⟨d, R⟩, g, hz⟩ := X
  have cm : (nI m).toNatClampNeg = m := nIc (by omega)
  intro k
  induction k with
  | zero =>
    intro i S1 hi A h1
    exact X5_leastLoad_e H hm A (Or.inl (nI_lt (a := 6) (by omega) (by omega))) h1
  | succ k ih =>
    intro i S1 hi A h1
    have hge : ¬ 6 < nI i := Int32.not_lt.mpr (nI_le (b := 6) (by omega) (by omega))
    obtain ⟨d1, R1⟩ := A.back.rep R
    have R2 := R1.put3 (o := 4) (j := m) (v := nI i) (by omega) (by omega)
    rw [show 28 + 4 = 32 from rfl, upup] at R2
    unfold leastK at h1
    skip
    repeat' (first | (refine Rules.st H okX5_leastLoad [26] ?_; (conv => whnf); try (show T _ _ _ [_, _, _, _, _] _ _)) | refine br_t (by first | decide | assumption) ?_ | refine br_f (by first | decide | assumption) ?_ | refine br_c (fun _ => ?_) (fun _ => ?_) | refine ⟨by decide, ?_⟩ | refine ⟨by first | assumption | (unfold vp_in; decide) | ((with_reducible (refine vp_in_nI ?_ ?_)) <;> omega), ?_⟩ | fail)
    rw [cm]
    refine X5_longMinutes H hm R2 (g.u (by omega)) ((up_k (by omega)).trans hz.2) (fun S2 s2 e22 _ _ => ?_)
    have A2 := A.put s2
    by_cases q : longK m n (up K 4 m (nI i)) 0 4 = 0
    · rw [if_pos q] at h1
      have q2 : S2 25 22 = 0 := e22.trans q
      repeat' (first | (refine Rules.st H okX5_leastLoad [26] ?_; (conv => whnf); try (show T _ _ _ [_, _, _, _, _] _ _)) | refine br_t (by first | decide | assumption) ?_ | refine br_f (by first | decide | assumption) ?_ | refine br_c (fun _ => ?_) (fun _ => ?_) | refine ⟨by decide, ?_⟩ | refine ⟨by first | assumption | (unfold vp_in; decide) | ((with_reducible (refine vp_in_nI ?_ ?_)) <;> omega), ?_⟩ | fail)
      refine Halt.mk ?_
      exact X5_leastLoad_e H hm A2 (Or.inr (nI_pos' (by omega))) h1
    · rw [if_neg q] at h1
      have q2 : ¬ S2 25 22 = 0 := fun z => q (e22.symm.trans z)
      repeat' (first | (refine Rules.st H okX5_leastLoad [26] ?_; (conv => whnf); try (show T _ _ _ [_, _, _, _, _] _ _)) | refine br_t (by first | decide | assumption) ?_ | refine br_f (by first | decide | assumption) ?_ | refine br_c (fun _ => ?_) (fun _ => ?_) | refine ⟨by decide, ?_⟩ | refine ⟨by first | assumption | (unfold vp_in; decide) | ((with_reducible (refine vp_in_nI ?_ ?_)) <;> omega), ?_⟩ | fail)
      refine Halt.mk ?_
      rw [nI_1]
      exact ih (i + 1) S2 (by omega) A2 h1
set_option maxRecDepth 100000 in
theorem X5_leastLoad (H : Rules C T) {S K : Mem} {n : Nat} (X : XM S K n) {m : Int32} {Q : Pst} (h1 : AnsM S (F_leastLoad K n m) Q) : C mX5_leastLoad [.ref 25, .int m] S Q := by
  unfold F_leastLoad at h1
  refine Rules.go H (by decide) (Nat.le_of_ble_eq_true rfl) ?_
  repeat' (first | (refine Rules.st H okX5_leastLoad [26] ?_; (conv => whnf); try (show T _ _ _ [_, _, _, _, _] _ _)) | refine br_t (by first | decide | assumption) ?_ | refine br_f (by first | decide | assumption) ?_ | refine br_c (fun _ => ?_) (fun _ => ?_) | refine ⟨by decide, ?_⟩ | refine ⟨by first | assumption | (unfold vp_in; decide) | ((with_reducible (refine vp_in_nI ?_ ?_)) <;> omega), ?_⟩ | fail)
  refine X5_isMaid H (fun i hi e => ?_) (fun hno => ?_)
  · subst e
    rw [if_pos (okM_nI hi), show ix (nI i) = i from nIc (by omega)] at h1
    repeat' (first | (refine Rules.st H okX5_leastLoad [26] ?_; (conv => whnf); try (show T _ _ _ [_, _, _, _, _] _ _)) | refine br_t (by first | decide | assumption) ?_ | refine br_f (by first | decide | assumption) ?_ | refine br_c (fun _ => ?_) (fun _ => ?_) | refine ⟨by decide, ?_⟩ | refine ⟨by first | assumption | (unfold vp_in; decide) | ((with_reducible (refine vp_in_nI ?_ ?_)) <;> omega), ?_⟩ | fail)
    rw [show (nI i).toNatClampNeg = i from nIc (by omega)]
    refine Halt.mk ?_
    exact X5_leastLoad_l H hi X 7 0 S (by omega) (ScA.of ScM.rf) (fun S2 s2 => h1 S2 s2)
  · rw [if_neg (okM_neg hno)] at h1
    repeat' (first | (refine Rules.st H okX5_leastLoad [26] ?_; (conv => whnf); try (show T _ _ _ [_, _, _, _, _] _ _)) | refine br_t (by first | decide | assumption) ?_ | refine br_f (by first | decide | assumption) ?_ | refine br_c (fun _ => ?_) (fun _ => ?_) | refine ⟨by decide, ?_⟩ | refine ⟨by first | assumption | (unfold vp_in; decide) | ((with_reducible (refine vp_in_nI ?_ ?_)) <;> omega), ?_⟩ | fail)
    refine X5_no H ScM.rf (k := 1) (by omega) (by omega) (by decide) (fun S' hS' => ?_)
    repeat' (first | (refine Rules.st H okX5_leastLoad [26] ?_; (conv => whnf); try (show T _ _ _ [_, _, _, _, _] _ _)) | refine br_t (by first | decide | assumption) ?_ | refine br_f (by first | decide | assumption) ?_ | refine br_c (fun _ => ?_) (fun _ => ?_) | refine ⟨by decide, ?_⟩ | refine ⟨by first | assumption | (unfold vp_in; decide) | ((with_reducible (refine vp_in_nI ?_ ?_)) <;> omega), ?_⟩ | fail)
    exact h1 S' hS'
set_option maxRecDepth 100000 in
theorem X5_cardBest_l (H : Rules C T) {S K : Mem} {n m : Nat} (hm : m < 2) (X : XM S K n) {Q : Pst} : ∀ (k i : Nat) (S1 : Mem) (a f : Int32) (y : Option Value), i + k = n → ScM 0 S S1 → (∀ S2, ScM 0 S S2 → Q (some (.int (cardK K n m k i a f))) S2) → T mX5_cardBest Q 31 [some (.ref 25), some (.int (nI m)), some (.int a), some (.int f), some (.int (pcI (longK m n K 0 1))), some (.int (nI i)), y] [] S1 := by
  obtain ⟨⟨d, R⟩, g, hz⟩ := X
  have h8 := g.2.1
  intro k
  induction k with
  | zero =>
    intro i S1 a f y hi s1 h1
    obtain ⟨d1, R1⟩ := s1.rep R
    have hge : S1 25 8 ≤ nI i := by rw [R1.rm, g.1]; exact nI_le (by omega) (by omega)
    skip
    repeat' (first | (refine Rules.st H okX5_cardBest [31] ?_; (conv => whnf); try (show T _ _ _ [_, _, _, _, _, _, _] _ _)) | refine br_t (by first | decide | assumption) ?_ | refine br_f (by first | decide | assumption) ?_ | refine br_c (fun _ => ?_) (fun _ => ?_) | refine ⟨by decide, ?_⟩ | refine ⟨by first | assumption | (unfold vp_in; decide) | ((with_reducible (refine vp_in_nI ?_ ?_)) <;> omega), ?_⟩ | fail)
    exact h1 S1 s1
  | succ k ih =>
    intro i S1 a f y hi s1 h1
    obtain ⟨d1, R1⟩ := s1.rep R
    have hge : ¬ S1 25 8 ≤ nI i := by rw [R1.rm, g.1]; exact nI_ge (by omega) (by omega)
    have ci : (nI i).toNatClampNeg = i := nIc (by omega)
    have e30 : S1 30 (nI i).toNatClampNeg = bt (K 0 2) i := by rw [ci]; exact R1.cd (by omega)
    unfold cardK at h1
    by_cases q : bt (K 0 2) i = 0
    · have q2 : ¬ S1 30 (nI i).toNatClampNeg = 1 := by rw [e30, q]; decide
      have R2 : RepM (up S1 30 i 1) (flipK K 2 i) d1 := R1.putF (f := 2) (Or.inr rfl) (by omega) (by rw [q]; decide)
      skip
      repeat' (first | (refine Rules.st H okX5_cardBest [31] ?_; (conv => whnf); try (show T _ _ _ [_, _, _, _, _, _, _] _ _)) | refine br_t (by first | decide | assumption) ?_ | refine br_f (by first | decide | assumption) ?_ | refine br_c (fun _ => ?_) (fun _ => ?_) | refine ⟨by decide, ?_⟩ | refine ⟨by first | assumption | (unfold vp_in; decide) | ((with_reducible (refine vp_in_nI ?_ ?_)) <;> omega), ?_⟩ | fail)
      rw [ci]
      refine X5_longMinutes H hm R2 (g.flip (Or.inr rfl) (by omega)) hz.2 (fun S2 s2 _ e32 _ => ?_)
      have e5 : flipK K 2 i 5 m = K 5 m := up_k (by omega)
      rw [e5]
      have s3 : ScM 0 S (up S2 30 (nI i).toNatClampNeg 0) := by
        rw [ci, ← q, ← R1.cd (r := i) (by omega)]
        exact s1.tr ((ScA.of ScM.rf : ScA 30 i S1 S1).put s2).back
      have e32' : up S2 30 (nI i).toNatClampNeg 0 25 32 = pcI (longK m n (flipK K 2 i) 0 1) := by rw [up_k (by omega)]; exact e32
      repeat' (first | (refine Rules.st H okX5_cardBest [31] ?_; (conv => whnf); try (show T _ _ _ [_, _, _, _, _, _, _] _ _)) | refine br_t (by first | decide | assumption) ?_ | refine br_f (by first | decide | assumption) ?_ | refine br_c (fun _ => ?_) (fun _ => ?_) | refine ⟨by decide, ?_⟩ | refine ⟨by first | assumption | (unfold vp_in; decide) | ((with_reducible (refine vp_in_nI ?_ ?_)) <;> omega), ?_⟩ | fail)
      all_goals rw [nI_1]
      · rw [if_neg (fun z => absurd z.2.2 (Int32.not_lt.mpr (by assumption)))] at h1
        exact Halt.mk (ih (i + 1) _ _ _ _ (by omega) s3 h1)
      · have q3 := (by assumption : pcI (longK m n K 0 1) ≤ up S2 30 (nI i).toNatClampNeg 0 25 32)
        rw [e32'] at q3
        rw [if_pos ⟨q, q3, Int32.not_le.mp (by assumption)⟩] at h1
        exact Halt.mk (ih (i + 1) _ _ _ _ (by omega) s3 h1)
      · have q3 := (by assumption : ¬ pcI (longK m n K 0 1) ≤ up S2 30 (nI i).toNatClampNeg 0 25 32)
        rw [e32'] at q3
        rw [if_neg (fun z => q3 z.2.1)] at h1
        exact Halt.mk (ih (i + 1) _ _ _ _ (by omega) s3 h1)
    · have q2 : S1 30 (nI i).toNatClampNeg = 1 := by rw [e30]; exact bt_n0 q
      rw [if_neg (fun z => q z.1)] at h1
      skip
      repeat' (first | (refine Rules.st H okX5_cardBest [31] ?_; (conv => whnf); try (show T _ _ _ [_, _, _, _, _, _, _] _ _)) | refine br_t (by first | decide | assumption) ?_ | refine br_f (by first | decide | assumption) ?_ | refine br_c (fun _ => ?_) (fun _ => ?_) | refine ⟨by decide, ?_⟩ | refine ⟨by first | assumption | (unfold vp_in; decide) | ((with_reducible (refine vp_in_nI ?_ ?_)) <;> omega), ?_⟩ | fail)
      refine Halt.mk ?_
      rw [nI_1]
      exact ih (i + 1) S1 _ _ _ (by omega) s1 h1
set_option maxRecDepth 100000 in
theorem X5_cardBest (H : Rules C T) {S K : Mem} {n : Nat} (X : XM S K n) {m : Int32} {Q : Pst} (h1 : AnsM S (F_cardBest K n m) Q) : C mX5_cardBest [.ref 25, .int m] S Q := by
  have X0 := X
  obtain ⟨⟨d, R⟩, g, hz⟩ := X
  unfold F_cardBest at h1
  refine Rules.go H (by decide) (Nat.le_of_ble_eq_true rfl) ?_
  repeat' (first | (refine Rules.st H okX5_cardBest [31] ?_; (conv => whnf); try (show T _ _ _ [_, _, _, _, _, _, _] _ _)) | refine br_t (by first | decide | assumption) ?_ | refine br_f (by first | decide | assumption) ?_ | refine br_c (fun _ => ?_) (fun _ => ?_) | refine ⟨by decide, ?_⟩ | refine ⟨by first | assumption | (unfold vp_in; decide) | ((with_reducible (refine vp_in_nI ?_ ?_)) <;> omega), ?_⟩ | fail)
  refine X5_isMaid H (fun i hi e => ?_) (fun hno => ?_)
  · subst e
    rw [if_pos (okM_nI hi), show ix (nI i) = i from nIc (by omega)] at h1
    repeat' (first | (refine Rules.st H okX5_cardBest [31] ?_; (conv => whnf); try (show T _ _ _ [_, _, _, _, _, _, _] _ _)) | refine br_t (by first | decide | assumption) ?_ | refine br_f (by first | decide | assumption) ?_ | refine br_c (fun _ => ?_) (fun _ => ?_) | refine ⟨by decide, ?_⟩ | refine ⟨by first | assumption | (unfold vp_in; decide) | ((with_reducible (refine vp_in_nI ?_ ?_)) <;> omega), ?_⟩ | fail)
    refine X5_longMinutes H hi R g hz.2 (fun S1 s1 _ e32 _ => ?_)
    repeat' (first | (refine Rules.st H okX5_cardBest [31] ?_; (conv => whnf); try (show T _ _ _ [_, _, _, _, _, _, _] _ _)) | refine br_t (by first | decide | assumption) ?_ | refine br_f (by first | decide | assumption) ?_ | refine br_c (fun _ => ?_) (fun _ => ?_) | refine ⟨by decide, ?_⟩ | refine ⟨by first | assumption | (unfold vp_in; decide) | ((with_reducible (refine vp_in_nI ?_ ?_)) <;> omega), ?_⟩ | fail)
    rw [e32]
    refine Halt.mk ?_
    exact X5_cardBest_l H hi X0 n 0 S1 _ _ _ (by omega) s1 (fun S2 s2 => h1 S2 s2)
  · rw [if_neg (okM_neg hno)] at h1
    repeat' (first | (refine Rules.st H okX5_cardBest [31] ?_; (conv => whnf); try (show T _ _ _ [_, _, _, _, _, _, _] _ _)) | refine br_t (by first | decide | assumption) ?_ | refine br_f (by first | decide | assumption) ?_ | refine br_c (fun _ => ?_) (fun _ => ?_) | refine ⟨by decide, ?_⟩ | refine ⟨by first | assumption | (unfold vp_in; decide) | ((with_reducible (refine vp_in_nI ?_ ?_)) <;> omega), ?_⟩ | fail)
    refine X5_no H ScM.rf (k := 1) (by omega) (by omega) (by decide) (fun S' hS' => ?_)
    repeat' (first | (refine Rules.st H okX5_cardBest [31] ?_; (conv => whnf); try (show T _ _ _ [_, _, _, _, _, _, _] _ _)) | refine br_t (by first | decide | assumption) ?_ | refine br_f (by first | decide | assumption) ?_ | refine br_c (fun _ => ?_) (fun _ => ?_) | refine ⟨by decide, ?_⟩ | refine ⟨by first | assumption | (unfold vp_in; decide) | ((with_reducible (refine vp_in_nI ?_ ?_)) <;> omega), ?_⟩ | fail)
    exact h1 S' hS'
end M25
