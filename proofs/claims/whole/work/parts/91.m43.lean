section M43
variable {C : Cst} {T : Nat → Pst → Nat → Lcs → List Value → Mem → Prop}
set_option maxRecDepth 100000 in
theorem RepM.same {S K : Mem} {d v : Int32} {a j : Nat} (R : RepM S K d) (h : inM a j) (e : mV K d a j = v) : RepM (up S a j v) K d := R.put (fun b i _ => by
  by_cases q : b = a ∧ i = j
  · rw [if_pos q, q.1, q.2, e]
  · rw [if_neg q])
set_option maxRecDepth 100000 in
theorem RepM.putR {S K : Mem} {d x : Int32} (R : RepM S K d) : RepM (up S 25 8 x) (up K 0 0 x) d := R.put (fun b i hi => by
  unfold inM at hi
  rcases hi with ⟨rfl, hi⟩ | ⟨rfl | rfl | rfl | rfl, hb⟩ | ⟨hb, hj⟩
  · rw [mv25, mv25]
    rcases hi with rfl | rfl | rfl
    · rw [if_pos rfl, if_pos ⟨rfl, rfl⟩, up_at]
    · rw [if_neg (by omega), if_pos rfl, if_neg (by omega), if_neg (by omega), if_pos rfl, up_j (by omega)]
    · rw [if_neg (by omega), if_neg (by omega), if_neg (by omega), if_neg (by omega), if_neg (by omega), up_j (by omega)]
  · rw [mv27, mv27, if_neg (by omega), up_k (by omega)]
  · rw [mv28, mv28, if_neg (by omega), up_k (by omega)]
  · rw [mv29, mv29, if_neg (by omega), up_j (by omega)]
  · rw [mv30, mv30, if_neg (by omega), up_j (by omega)]
  · rw [mv31 _ _ _ (by omega), mv31 _ _ _ (by omega), if_neg (by omega), up_k (by omega)])
set_option maxRecDepth 100000 in
theorem bt_out : ∀ n, n < 8 → ∀ D, D < 2 ^ n → bt (nI D) n = 0 := by decide +kernel
set_option maxRecDepth 100000 in
theorem isS.out {n : Nat} {x : Int32} (h : isS n x) (hn : n < 8) : bt x n = 0 := by
  obtain ⟨D, hD, rfl⟩ := h
  exact bt_out n hn D hD
set_option maxRecDepth 100000 in
theorem isS.up {n : Nat} {x : Int32} (h : isS n x) : isS (n + 1) x := by
  obtain ⟨D, hD, e⟩ := h
  exact ⟨D, by rw [Nat.pow_succ]; omega, e⟩
set_option maxRecDepth 100000 in
theorem X5_comesRoom (H : Rules C T) {S K : Mem} {d : Int32} {n : Nat} (R : RepM S K d) (g : Gd K n) {kd f : Int32} {Q : Pst} (h0 : n = 8 → Q (some (.int 0)) S) (h1 : n < 8 → ∀ S', RepM S' (addK K n kd f) d → FrM S S' → Q (some (.int 1)) S') : C mX5_comesRoom [.ref 25, .int kd, .int f] S Q := by
  have h8 := g.2.1
  have e8 : S 25 8 = nI n := R.rm.trans g.1
  by_cases q : n = 8
  · have c : S 25 8 = 8 := by rw [e8, q]; rfl
    have h0 := h0 q
    refine Rules.go H (by decide) (Nat.le_of_ble_eq_true rfl) ?_
    repeat' (first | (refine Rules.st H okX5_comesRoom [] ?_; (conv => whnf); try (show T _ _ _ [_, _, _] _ _)) | refine br_t (by first | decide | assumption) ?_ | refine br_f (by first | decide | assumption) ?_ | refine br_c (fun _ => ?_) (fun _ => ?_) | refine ⟨by decide, ?_⟩ | refine ⟨by first | assumption | (unfold vp_in; decide) | ((with_reducible (refine vp_in_nI ?_ ?_)) <;> omega), ?_⟩ | fail)
    exact h0
  · have c : ¬ S 25 8 = 8 := by rw [e8]; exact fun z => q ((nI_eq (b := 8) (by omega) (by omega)).mp z)
    have a1 : ∀ i x, up S 27 i x 25 8 = nI n := fun i x => by rw [up_k (by omega)]; exact e8
    have a2 : ∀ i x i2 y, up (up S 27 i x) 28 i2 y 25 8 = nI n := fun i x i2 y => by rw [up_k (by omega)]; exact a1 i x
    have a3 : ∀ i x i2 y i3 z, up (up (up S 27 i x) 28 i2 y) 29 i3 z 25 8 = nI n := fun i x i2 y i3 z => by rw [up_k (by omega)]; exact a2 i x i2 y
    have a4 : ∀ i x i2 y i3 z i4 v, up (up (up (up S 27 i x) 28 i2 y) 29 i3 z) 30 i4 v 25 8 = nI n := fun i x i2 y i3 z i4 v => by rw [up_k (by omega)]; exact a3 i x i2 y i3 z
    have R1 : RepM (up S 27 n kd) (up K 1 n kd) d := R.put1 (o := 1) (Or.inl rfl)
    have R2 : RepM (up (up S 27 n kd) 28 n f) (up (up K 1 n kd) 2 n f) d := R1.put1 (o := 2) (Or.inr rfl)
    have R3 := R2.same (a := 29) (j := n) (v := 0) (by unfold inM; omega) (by rw [mv29]; exact g.2.2.1.out (by omega))
    have R4 := R3.same (a := 30) (j := n) (v := 0) (by unfold inM; omega) (by rw [mv30]; exact g.2.2.2.1.out (by omega))
    have R5 := R4.putR (x := nI n + 1)
    have FF : FrM S (up (up (up (up (up S 27 n kd) 28 n f) 29 n 0) 30 n 0) 25 8 (nI n + 1)) := ((((FrM.put (by unfold inM; omega)).tr (FrM.put (by unfold inM; omega))).tr (FrM.put (by unfold inM; omega))).tr (FrM.put (by unfold inM; omega))).tr (FrM.put (by unfold inM; omega))
    have h1 := h1 (by omega) _ (by unfold addK; rw [g.1]; exact R5) FF
    have v0 : vp_in (S 25 8) 8 := by rw [e8]; exact vp_in_nI (by omega) (by omega)
    have v1 : vp_in (up S 27 (S 25 8).toNatClampNeg kd 25 8) 8 := by rw [a1]; exact vp_in_nI (by omega) (by omega)
    have v2 : vp_in (up (up S 27 (S 25 8).toNatClampNeg kd) 28 (up S 27 (S 25 8).toNatClampNeg kd 25 8).toNatClampNeg f 25 8) 8 := by rw [a2]; exact vp_in_nI (by omega) (by omega)
    have v3 : vp_in (up (up (up S 27 (S 25 8).toNatClampNeg kd) 28 (up S 27 (S 25 8).toNatClampNeg kd 25 8).toNatClampNeg f) 29 (up (up S 27 (S 25 8).toNatClampNeg kd) 28 (up S 27 (S 25 8).toNatClampNeg kd 25 8).toNatClampNeg f 25 8).toNatClampNeg 0 25 8) 8 := by rw [a3]; exact vp_in_nI (by omega) (by omega)
    refine Rules.go H (by decide) (Nat.le_of_ble_eq_true rfl) ?_
    repeat' (first | (refine Rules.st H okX5_comesRoom [] ?_; (conv => whnf); try (show T _ _ _ [_, _, _] _ _)) | refine br_t (by first | decide | assumption) ?_ | refine br_f (by first | decide | assumption) ?_ | refine br_c (fun _ => ?_) (fun _ => ?_) | refine ⟨by decide, ?_⟩ | refine ⟨by first | assumption | (unfold vp_in; decide) | ((with_reducible (refine vp_in_nI ?_ ?_)) <;> omega), ?_⟩ | fail)
    rw [a4, a3, a2, a1, e8, nIc (by omega)]
    exact h1
set_option maxRecDepth 100000 in
theorem X5_comesOther (H : Rules C T) {S K : Mem} {d : Int32} {n f : Nat} (hf : f = 1 ∨ f = 2) (R : RepM S K d) (g : Gd K n) {x : Int32} {Q : Pst} (h0 : ¬ okR n x → Q (some (.int 0)) S) (h1 : ∀ r, r < n → x = nI r → ∀ S', RepM S' (flipK K f r) d → FrM S S' → Q (some (.int 1)) S') : C mX5_comesOther [.ref 25, .ref (28 + f), .int x] S Q := by
  have h8 := g.2.1
  have ok : ∀ r, r < n → x = nI r → Q (some (.int 1)) (up S (28 + f) (nI r).toNatClampNeg (1 - S (28 + f) (nI r).toNatClampNeg)) := fun r hr e => by
    rw [nIc (by omega)]
    have ex : S (28 + f) r = bt (K 0 f) r := by
      rcases hf with rfl | rfl
      · exact R.de (by omega)
      · exact R.cd (by omega)
    rw [ex]
    exact h1 r hr e _ (R.putF hf (by omega) rfl) (FrM.put (by unfold inM; omega))
  rcases hf with rfl | rfl <;>
  · refine Rules.go H (by decide) (Nat.le_of_ble_eq_true rfl) ?_
    repeat' (first | (refine Rules.st H okX5_comesOther [] ?_; (conv => whnf); try (show T _ _ _ [_, _, _] _ _)) | refine br_t (by first | decide | assumption) ?_ | refine br_f (by first | decide | assumption) ?_ | refine br_c (fun _ => ?_) (fun _ => ?_) | refine ⟨by decide, ?_⟩ | refine ⟨by first | assumption | (unfold vp_in; decide) | ((with_reducible (refine vp_in_nI ?_ ?_)) <;> omega), ?_⟩ | fail)
    refine X5_isRoom H (R.rm.trans g.1) h8 (fun r hr e => ?_) (fun hno => ?_)
    · replace ok := ok r hr e
      subst e
      repeat' (first | (refine Rules.st H okX5_comesOther [] ?_; (conv => whnf); try (show T _ _ _ [_, _, _] _ _)) | refine br_t (by first | decide | assumption) ?_ | refine br_f (by first | decide | assumption) ?_ | refine br_c (fun _ => ?_) (fun _ => ?_) | refine ⟨by decide, ?_⟩ | refine ⟨by first | assumption | (unfold vp_in; decide) | ((with_reducible (refine vp_in_nI ?_ ?_)) <;> omega), ?_⟩ | fail)
      exact ok
    · have h0 := h0 (okR_neg h8 hno)
      repeat' (first | (refine Rules.st H okX5_comesOther [] ?_; (conv => whnf); try (show T _ _ _ [_, _, _] _ _)) | refine br_t (by first | decide | assumption) ?_ | refine br_f (by first | decide | assumption) ?_ | refine br_c (fun _ => ?_) (fun _ => ?_) | refine ⟨by decide, ?_⟩ | refine ⟨by first | assumption | (unfold vp_in; decide) | ((with_reducible (refine vp_in_nI ?_ ?_)) <;> omega), ?_⟩ | fail)
      exact h0
set_option maxRecDepth 100000 in
theorem X5_comesMaid (H : Rules C T) {S K : Mem} {d : Int32} {n : Nat} (R : RepM S K d) (g : Gd K n) {m a ld : Int32} {Q : Pst} (h0 : ¬ (okM m ∧ ¬ nI n < a ∧ ¬ 6 < ld) → Q (some (.int 0)) S) (h1 : ∀ i, i < 2 → m = nI i → ¬ nI n < a → ¬ 6 < ld → ∀ S', RepM S' (up (up K 3 i a) 4 i ld) d → FrM S S' → Q (some (.int 1)) S') : C mX5_comesMaid [.ref 25, .int m, .int a, .int ld] S Q := by
  have e8 : S 25 8 = nI n := R.rm.trans g.1
  refine Rules.go H (by decide) (Nat.le_of_ble_eq_true rfl) ?_
  repeat' (first | (refine Rules.st H okX5_comesMaid [] ?_; (conv => whnf); try (show T _ _ _ [_, _, _, _] _ _)) | refine br_t (by first | decide | assumption) ?_ | refine br_f (by first | decide | assumption) ?_ | refine br_c (fun _ => ?_) (fun _ => ?_) | refine ⟨by decide, ?_⟩ | refine ⟨by first | assumption | (unfold vp_in; decide) | ((with_reducible (refine vp_in_nI ?_ ?_)) <;> omega), ?_⟩ | fail)
  refine X5_isMaid H (fun i hi e => ?_) (fun hno => ?_)
  · by_cases q1 : nI n < a
    · have c : S 25 8 < a := by rw [e8]; exact q1
      have h0 := h0 (fun z => z.2.1 q1)
      repeat' (first | (refine Rules.st H okX5_comesMaid [] ?_; (conv => whnf); try (show T _ _ _ [_, _, _, _] _ _)) | refine br_t (by first | decide | assumption) ?_ | refine br_f (by first | decide | assumption) ?_ | refine br_c (fun _ => ?_) (fun _ => ?_) | refine ⟨by decide, ?_⟩ | refine ⟨by first | assumption | (unfold vp_in; decide) | ((with_reducible (refine vp_in_nI ?_ ?_)) <;> omega), ?_⟩ | fail)
      exact h0
    · have c : ¬ S 25 8 < a := by rw [e8]; exact q1
      by_cases q2 : 6 < ld
      · have c2 := Int32.not_le.mpr q2
        have h0 := h0 (fun z => z.2.2 q2)
        repeat' (first | (refine Rules.st H okX5_comesMaid [] ?_; (conv => whnf); try (show T _ _ _ [_, _, _, _] _ _)) | refine br_t (by first | decide | assumption) ?_ | refine br_f (by first | decide | assumption) ?_ | refine br_c (fun _ => ?_) (fun _ => ?_) | refine ⟨by decide, ?_⟩ | refine ⟨by first | assumption | (unfold vp_in; decide) | ((with_reducible (refine vp_in_nI ?_ ?_)) <;> omega), ?_⟩ | fail)
        exact h0
      · have c2 := Int32.not_lt.mp q2
        replace h1 := h1 i hi e q1 q2 _ ((R.put3 (o := 3) (by omega) (by omega)).put3 (o := 4) (by omega) (by omega)) ((FrM.put (by unfold inM; omega)).tr (FrM.put (by unfold inM; omega)))
        subst e
        have h1 : Q (some (.int 1)) (up (up S 31 (nI i).toNatClampNeg a) 32 (nI i).toNatClampNeg ld) := by rw [nIc (by omega)]; exact h1
        repeat' (first | (refine Rules.st H okX5_comesMaid [] ?_; (conv => whnf); try (show T _ _ _ [_, _, _, _] _ _)) | refine br_t (by first | decide | assumption) ?_ | refine br_f (by first | decide | assumption) ?_ | refine br_c (fun _ => ?_) (fun _ => ?_) | refine ⟨by decide, ?_⟩ | refine ⟨by first | assumption | (unfold vp_in; decide) | ((with_reducible (refine vp_in_nI ?_ ?_)) <;> omega), ?_⟩ | fail)
        exact h1
  · have h0 := h0 (fun z => okM_neg hno z.1)
    repeat' (first | (refine Rules.st H okX5_comesMaid [] ?_; (conv => whnf); try (show T _ _ _ [_, _, _, _] _ _)) | refine br_t (by first | decide | assumption) ?_ | refine br_f (by first | decide | assumption) ?_ | refine br_c (fun _ => ?_) (fun _ => ?_) | refine ⟨by decide, ?_⟩ | refine ⟨by first | assumption | (unfold vp_in; decide) | ((with_reducible (refine vp_in_nI ?_ ?_)) <;> omega), ?_⟩ | fail)
    exact h0
set_option maxRecDepth 100000 in
theorem X5_comesClock (H : Rules C T) {S K : Mem} {d : Int32} (R : RepM S K d) {m v : Int32} {Q : Pst} (h0 : ¬ okM m → Q (some (.int 0)) S) (h1 : ∀ i, i < 2 → m = nI i → ∀ S', RepM S' (up K 5 i v) d → FrM S S' → Q (some (.int 1)) S') : C mX5_comesClock [.ref 25, .int m, .int v] S Q := by
  refine Rules.go H (by decide) (Nat.le_of_ble_eq_true rfl) ?_
  repeat' (first | (refine Rules.st H okX5_comesClock [] ?_; (conv => whnf); try (show T _ _ _ [_, _, _] _ _)) | refine br_t (by first | decide | assumption) ?_ | refine br_f (by first | decide | assumption) ?_ | refine br_c (fun _ => ?_) (fun _ => ?_) | refine ⟨by decide, ?_⟩ | refine ⟨by first | assumption | (unfold vp_in; decide) | ((with_reducible (refine vp_in_nI ?_ ?_)) <;> omega), ?_⟩ | fail)
  refine X5_isMaid H (fun i hi e => ?_) (fun hno => ?_)
  · replace h1 := h1 i hi e _ (R.put3 (o := 5) (by omega) (by omega)) (FrM.put (by unfold inM; omega))
    subst e
    have h1 : Q (some (.int 1)) (up S 33 (nI i).toNatClampNeg v) := by rw [nIc (by omega)]; exact h1
    repeat' (first | (refine Rules.st H okX5_comesClock [] ?_; (conv => whnf); try (show T _ _ _ [_, _, _] _ _)) | refine br_t (by first | decide | assumption) ?_ | refine br_f (by first | decide | assumption) ?_ | refine br_c (fun _ => ?_) (fun _ => ?_) | refine ⟨by decide, ?_⟩ | refine ⟨by first | assumption | (unfold vp_in; decide) | ((with_reducible (refine vp_in_nI ?_ ?_)) <;> omega), ?_⟩ | fail)
    exact h1
  · have h0 := h0 (okM_neg hno)
    repeat' (first | (refine Rules.st H okX5_comesClock [] ?_; (conv => whnf); try (show T _ _ _ [_, _, _] _ _)) | refine br_t (by first | decide | assumption) ?_ | refine br_f (by first | decide | assumption) ?_ | refine br_c (fun _ => ?_) (fun _ => ?_) | refine ⟨by decide, ?_⟩ | refine ⟨by first | assumption | (unfold vp_in; decide) | ((with_reducible (refine vp_in_nI ?_ ?_)) <;> omega), ?_⟩ | fail)
    exact h0
set_option maxRecDepth 100000 in
theorem X5_comesVisit (H : Rules C T) {S K : Mem} {d : Int32} {n : Nat} (R : RepM S K d) (g : Gd K n) {m r : Int32} {Q : Pst} (h0 : ¬ (okM m ∧ okR n r) → Q (some (.int 0)) S) (h1 : ∀ i j, i < 2 → j < n → m = nI i → r = nI j → ∀ S', RepM S' (visitK K i j).2 d → FrM S S' → (999 < (visitK K i j).2 5 i → Q (some (.int 0)) S') ∧ (¬ 999 < (visitK K i j).2 5 i → Q (some (.int 1)) S')) : C mX5_comesVisit [.ref 25, .int m, .int r] S Q := by
  have h8 := g.2.1
  refine Rules.go H (by decide) (Nat.le_of_ble_eq_true rfl) ?_
  repeat' (first | (refine Rules.st H okX5_comesVisit [] ?_; (conv => whnf); try (show T _ _ _ [_, _, _] _ _)) | refine br_t (by first | decide | assumption) ?_ | refine br_f (by first | decide | assumption) ?_ | refine br_c (fun _ => ?_) (fun _ => ?_) | refine ⟨by decide, ?_⟩ | refine ⟨by first | assumption | (unfold vp_in; decide) | ((with_reducible (refine vp_in_nI ?_ ?_)) <;> omega), ?_⟩ | fail)
  refine X5_isMaid H (fun i hi e => ?_) (fun hno => ?_)
  · repeat' (first | (refine Rules.st H okX5_comesVisit [] ?_; (conv => whnf); try (show T _ _ _ [_, _, _] _ _)) | refine br_t (by first | decide | assumption) ?_ | refine br_f (by first | decide | assumption) ?_ | refine br_c (fun _ => ?_) (fun _ => ?_) | refine ⟨by decide, ?_⟩ | refine ⟨by first | assumption | (unfold vp_in; decide) | ((with_reducible (refine vp_in_nI ?_ ?_)) <;> omega), ?_⟩ | fail)
    refine X5_isRoom H (R.rm.trans g.1) h8 (fun j hj e2 => ?_) (fun hno => ?_)
    · subst e e2
      repeat' (first | (refine Rules.st H okX5_comesVisit [] ?_; (conv => whnf); try (show T _ _ _ [_, _, _] _ _)) | refine br_t (by first | decide | assumption) ?_ | refine br_f (by first | decide | assumption) ?_ | refine br_c (fun _ => ?_) (fun _ => ?_) | refine ⟨by decide, ?_⟩ | refine ⟨by first | assumption | (unfold vp_in; decide) | ((with_reducible (refine vp_in_nI ?_ ?_)) <;> omega), ?_⟩ | fail)
      refine X5_visit H R g hi hj (fun S1 R1 F1 => ?_)
      obtain ⟨y0, y1⟩ := h1 i j hi hj rfl rfl S1 R1 F1
      have e33 : S1 33 (nI i).toNatClampNeg = (visitK K i j).2 5 i := by rw [nIc (by omega)]; exact R1.ck hi
      rw [← e33] at y0 y1
      by_cases q : 999 < S1 33 (nI i).toNatClampNeg
      · have y0 := y0 q
        repeat' (first | (refine Rules.st H okX5_comesVisit [] ?_; (conv => whnf); try (show T _ _ _ [_, _, _] _ _)) | refine br_t (by first | decide | assumption) ?_ | refine br_f (by first | decide | assumption) ?_ | refine br_c (fun _ => ?_) (fun _ => ?_) | refine ⟨by decide, ?_⟩ | refine ⟨by first | assumption | (unfold vp_in; decide) | ((with_reducible (refine vp_in_nI ?_ ?_)) <;> omega), ?_⟩ | fail)
        exact y0
      · have y1 := y1 q
        repeat' (first | (refine Rules.st H okX5_comesVisit [] ?_; (conv => whnf); try (show T _ _ _ [_, _, _] _ _)) | refine br_t (by first | decide | assumption) ?_ | refine br_f (by first | decide | assumption) ?_ | refine br_c (fun _ => ?_) (fun _ => ?_) | refine ⟨by decide, ?_⟩ | refine ⟨by first | assumption | (unfold vp_in; decide) | ((with_reducible (refine vp_in_nI ?_ ?_)) <;> omega), ?_⟩ | fail)
        exact y1
    · have h0 := h0 (fun z => okR_neg h8 hno z.2)
      repeat' (first | (refine Rules.st H okX5_comesVisit [] ?_; (conv => whnf); try (show T _ _ _ [_, _, _] _ _)) | refine br_t (by first | decide | assumption) ?_ | refine br_f (by first | decide | assumption) ?_ | refine br_c (fun _ => ?_) (fun _ => ?_) | refine ⟨by decide, ?_⟩ | refine ⟨by first | assumption | (unfold vp_in; decide) | ((with_reducible (refine vp_in_nI ?_ ?_)) <;> omega), ?_⟩ | fail)
      exact h0
  · have h0 := h0 (fun z => okM_neg hno z.1)
    repeat' (first | (refine Rules.st H okX5_comesVisit [] ?_; (conv => whnf); try (show T _ _ _ [_, _, _] _ _)) | refine br_t (by first | decide | assumption) ?_ | refine br_f (by first | decide | assumption) ?_ | refine br_c (fun _ => ?_) (fun _ => ?_) | refine ⟨by decide, ?_⟩ | refine ⟨by first | assumption | (unfold vp_in; decide) | ((with_reducible (refine vp_in_nI ?_ ?_)) <;> omega), ?_⟩ | fail)
    exact h0
set_option maxRecDepth 100000 in
theorem X5_comesBoth (H : Rules C T) {S K : Mem} {d : Int32} {n : Nat} (R : RepM S K d) (g : Gd K n) {r : Int32} {Q : Pst} (h0 : ¬ okR n r → Q (some (.int 0)) S) (h1 : ∀ j, j < n → r = nI j → ∀ S', RepM S' (bothK K j).2 d → FrM S S' → (999 < laterK (bothK K j).2 → Q (some (.int 0)) S') ∧ (¬ 999 < laterK (bothK K j).2 → Q (some (.int 1)) S')) : C mX5_comesBoth [.ref 25, .int r] S Q := by
  have h8 := g.2.1
  refine Rules.go H (by decide) (Nat.le_of_ble_eq_true rfl) ?_
  repeat' (first | (refine Rules.st H okX5_comesBoth [] ?_; (conv => whnf); try (show T _ _ _ [_, _] _ _)) | refine br_t (by first | decide | assumption) ?_ | refine br_f (by first | decide | assumption) ?_ | refine br_c (fun _ => ?_) (fun _ => ?_) | refine ⟨by decide, ?_⟩ | refine ⟨by first | assumption | (unfold vp_in; decide) | ((with_reducible (refine vp_in_nI ?_ ?_)) <;> omega), ?_⟩ | fail)
  refine X5_isRoom H (R.rm.trans g.1) h8 (fun j hj e2 => ?_) (fun hno => ?_)
  · subst e2
    repeat' (first | (refine Rules.st H okX5_comesBoth [] ?_; (conv => whnf); try (show T _ _ _ [_, _] _ _)) | refine br_t (by first | decide | assumption) ?_ | refine br_f (by first | decide | assumption) ?_ | refine br_c (fun _ => ?_) (fun _ => ?_) | refine ⟨by decide, ?_⟩ | refine ⟨by first | assumption | (unfold vp_in; decide) | ((with_reducible (refine vp_in_nI ?_ ?_)) <;> omega), ?_⟩ | fail)
    refine X5_visitBoth H R g hj (fun S1 R1 F1 => ?_)
    obtain ⟨y0, y1⟩ := h1 j hj rfl S1 R1 F1
    repeat' (first | (refine Rules.st H okX5_comesBoth [] ?_; (conv => whnf); try (show T _ _ _ [_, _] _ _)) | refine br_t (by first | decide | assumption) ?_ | refine br_f (by first | decide | assumption) ?_ | refine br_c (fun _ => ?_) (fun _ => ?_) | refine ⟨by decide, ?_⟩ | refine ⟨by first | assumption | (unfold vp_in; decide) | ((with_reducible (refine vp_in_nI ?_ ?_)) <;> omega), ?_⟩ | fail)
    refine X5_later H R1 ?_
    by_cases q : 999 < laterK (bothK K j).2
    · have y0 := y0 q
      repeat' (first | (refine Rules.st H okX5_comesBoth [] ?_; (conv => whnf); try (show T _ _ _ [_, _] _ _)) | refine br_t (by first | decide | assumption) ?_ | refine br_f (by first | decide | assumption) ?_ | refine br_c (fun _ => ?_) (fun _ => ?_) | refine ⟨by decide, ?_⟩ | refine ⟨by first | assumption | (unfold vp_in; decide) | ((with_reducible (refine vp_in_nI ?_ ?_)) <;> omega), ?_⟩ | fail)
      exact y0
    · have y1 := y1 q
      repeat' (first | (refine Rules.st H okX5_comesBoth [] ?_; (conv => whnf); try (show T _ _ _ [_, _] _ _)) | refine br_t (by first | decide | assumption) ?_ | refine br_f (by first | decide | assumption) ?_ | refine br_c (fun _ => ?_) (fun _ => ?_) | refine ⟨by decide, ?_⟩ | refine ⟨by first | assumption | (unfold vp_in; decide) | ((with_reducible (refine vp_in_nI ?_ ?_)) <;> omega), ?_⟩ | fail)
      exact y1
  · have h0 := h0 (okR_neg h8 hno)
    repeat' (first | (refine Rules.st H okX5_comesBoth [] ?_; (conv => whnf); try (show T _ _ _ [_, _] _ _)) | refine br_t (by first | decide | assumption) ?_ | refine br_f (by first | decide | assumption) ?_ | refine br_c (fun _ => ?_) (fun _ => ?_) | refine ⟨by decide, ?_⟩ | refine ⟨by first | assumption | (unfold vp_in; decide) | ((with_reducible (refine vp_in_nI ?_ ?_)) <;> omega), ?_⟩ | fail)
    exact h0
end M43
