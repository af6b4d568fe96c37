section M29
variable {C : Cst} {T : Nat → Pst → Nat → Lcs → List Value → Mem → Prop}
set_option maxRecDepth 100000 in
theorem X5_tipsOf_l (H : Rules C T) {S K : Mem} {d : Int32} {n : Nat} (R : RepM S K d) (hn : K 0 0 = nI n) (h8 : n ≤ 8) {set : Int32} {Q : Pst} : ∀ (k i : Nat) (a : Int32), i + k = n → Q (some (.int (tipsK K set k i a))) S → T mX5_tipsOf Q 4 [some (.ref 25), some (.int set), some (.int a), some (.int (nI i))] [] S := by
  intro k
  induction k with
  | zero =>
    intro i a hi h1
    have hge : S 25 8 ≤ nI i := by rw [R.rm, hn]; exact nI_le (by omega) (by omega)
    skip
    repeat' (first | (refine Rules.st H okX5_tipsOf [4] ?_; (conv => whnf); try (show T _ _ _ [_, _, _, _] _ _)) | refine br_t (by first | decide | assumption) ?_ | refine br_f (by first | decide | assumption) ?_ | refine br_c (fun _ => ?_) (fun _ => ?_) | refine ⟨by decide, ?_⟩ | refine ⟨by first | assumption | (unfold vp_in; decide) | ((with_reducible (refine vp_in_nI ?_ ?_)) <;> omega), ?_⟩ | fail)
    exact h1
  | succ k ih =>
    intro i a hi h1
    have hge : ¬ S 25 8 ≤ nI i := by rw [R.rm, hn]; exact nI_ge (by omega) (by omega)
    unfold tipsK at h1
    skip
    repeat' (first | (refine Rules.st H okX5_tipsOf [4] ?_; (conv => whnf); try (show T _ _ _ [_, _, _, _] _ _)) | refine br_t (by first | decide | assumption) ?_ | refine br_f (by first | decide | assumption) ?_ | refine br_c (fun _ => ?_) (fun _ => ?_) | refine ⟨by decide, ?_⟩ | refine ⟨by first | assumption | (unfold vp_in; decide) | ((with_reducible (refine vp_in_nI ?_ ?_)) <;> omega), ?_⟩ | fail)
    refine X5_has H (fun q => ?_) (fun q => ?_)
    · rw [if_neg (bt_10 q)] at h1
      repeat' (first | (refine Rules.st H okX5_tipsOf [4] ?_; (conv => whnf); try (show T _ _ _ [_, _, _, _] _ _)) | refine br_t (by first | decide | assumption) ?_ | refine br_f (by first | decide | assumption) ?_ | refine br_c (fun _ => ?_) (fun _ => ?_) | refine ⟨by decide, ?_⟩ | refine ⟨by first | assumption | (unfold vp_in; decide) | ((with_reducible (refine vp_in_nI ?_ ?_)) <;> omega), ?_⟩ | fail)
      refine X5_tip H R (by omega) ?_
      repeat' (first | (refine Rules.st H okX5_tipsOf [4] ?_; (conv => whnf); try (show T _ _ _ [_, _, _, _] _ _)) | refine br_t (by first | decide | assumption) ?_ | refine br_f (by first | decide | assumption) ?_ | refine br_c (fun _ => ?_) (fun _ => ?_) | refine ⟨by decide, ?_⟩ | refine ⟨by first | assumption | (unfold vp_in; decide) | ((with_reducible (refine vp_in_nI ?_ ?_)) <;> omega), ?_⟩ | fail)
      refine Halt.mk ?_
      rw [nI_1]
      exact ih (i + 1) _ (by omega) h1
    · rw [if_pos (bt_n1 q)] at h1
      repeat' (first | (refine Rules.st H okX5_tipsOf [4] ?_; (conv => whnf); try (show T _ _ _ [_, _, _, _] _ _)) | refine br_t (by first | decide | assumption) ?_ | refine br_f (by first | decide | assumption) ?_ | refine br_c (fun _ => ?_) (fun _ => ?_) | refine ⟨by decide, ?_⟩ | refine ⟨by first | assumption | (unfold vp_in; decide) | ((with_reducible (refine vp_in_nI ?_ ?_)) <;> omega), ?_⟩ | fail)
      refine Halt.mk ?_
      rw [nI_1, Int32.add_zero]
      exact ih (i + 1) _ (by omega) h1
set_option maxRecDepth 100000 in
theorem X5_tipsOf (H : Rules C T) {S K : Mem} {d : Int32} {n : Nat} (R : RepM S K d) (hn : K 0 0 = nI n) (h8 : n ≤ 8) {set : Int32} {Q : Pst} (h1 : Q (some (.int (tipsK K set n 0 0))) S) : C mX5_tipsOf [.ref 25, .int set] S Q := by
  refine Rules.go H (by decide) (Nat.le_of_ble_eq_true rfl) ?_
  repeat' (first | (refine Rules.st H okX5_tipsOf [4] ?_; (conv => whnf); try (show T _ _ _ [_, _, _, _] _ _)) | refine br_t (by first | decide | assumption) ?_ | refine br_f (by first | decide | assumption) ?_ | refine br_c (fun _ => ?_) (fun _ => ?_) | refine ⟨by decide, ?_⟩ | refine ⟨by first | assumption | (unfold vp_in; decide) | ((with_reducible (refine vp_in_nI ?_ ?_)) <;> omega), ?_⟩ | fail)
  exact Halt.mk (X5_tipsOf_l H R hn h8 n 0 0 (by omega) h1)
set_option maxRecDepth 100000 in
theorem tp_t {k f : Int32} (h : isT 9 f) : isT 18 (tipI k f) := by
  obtain ⟨j, hj, _, rfl⟩ := h.get
  have e : ∀ j, j < 10 → (0 ≤ (2 * nI j).toInt ∧ (2 * nI j).toInt ≤ 18) ∧ (0 ≤ (nI j + 1).toInt ∧ (nI j + 1).toInt ≤ 18) ∧ 0 ≤ (nI j).toInt ∧ (nI j).toInt ≤ 18 := by decide
  have e := e j (by omega)
  unfold tipI isT
  repeat' split
  all_goals first | exact e.1 | exact e.2.1 | exact e.2.2 | decide
set_option maxRecDepth 100000 in
theorem tips_t {c : Int} {K : Mem} (B : BK c K) (set : Int32) : ∀ (k i : Nat) (a : Int32) (b : Int), i + k ≤ 8 → isT b a → b + 18 * k ≤ 1000 → isT (b + 18 * k) (tipsK K set k i a)
  | 0, _, _, _, _, h, _ => by unfold tipsK; exact h.mono (by omega)
  | k + 1, i, a, b, hi, h, hb => by
    unfold tipsK
    split
    · exact (tips_t B set k (i + 1) a b (by omega) h (by omega)).mono (by omega)
    · exact (tips_t B set k (i + 1) _ (b + 18) (by omega) (h.add (tp_t (B.1 i (by omega))) (by omega)) (by omega)).mono (by omega)
set_option maxRecDepth 100000 in
theorem two_t {x : Int32} (h : isT 144 x) : isT 288 (2 * x) := by
  obtain ⟨j, hj, _, rfl⟩ := h.get
  have e : ∀ j, j < 145 → 0 ≤ (2 * nI j).toInt ∧ (2 * nI j).toInt ≤ 288 := by decide +kernel
  exact e j (by omega)
set_option maxRecDepth 100000 in
theorem apart_b {a b : Int32} (h1 : isT 1000 a) (h2 : isT 1000 b) : (if a < b then b - a else a - b) = absI (b - a) := by
  unfold isT at *
  have z : (0 : Int32).toInt = 0 := by decide
  have s := subT (x := b) (y := a) (by omega) (by omega)
  unfold absI
  by_cases q : a < b
  · rw [if_pos q, if_pos (by rw [leT, s]; rw [ltT] at q; omega)]
  · rw [if_neg q]
    rw [ltT] at q
    by_cases q2 : 0 ≤ b - a
    · rw [if_pos q2, eqT, subT (by omega) (by omega), s]
      rw [leT, s] at q2
      omega
    · rw [if_neg q2, eqT, subT (by omega) (by omega), subT (by omega) (by omega), s]
      omega
set_option maxRecDepth 100000 in
theorem fair_ap {c : Int} {K : Mem} (B : BK c K) {n : Nat} (h8 : n ≤ 8) (s s2 : Int32) : (if 2 * tipsK K s n 0 0 < tipsK K s2 n 0 0 then tipsK K s2 n 0 0 - 2 * tipsK K s n 0 0 else 2 * tipsK K s n 0 0 - tipsK K s2 n 0 0) = absI (tipsK K s2 n 0 0 - 2 * tipsK K s n 0 0) := by
  have t : ∀ s, isT 144 (tipsK K s n 0 0) := fun s => (tips_t B s n 0 0 0 (by omega) (by unfold isT; decide) (by omega)).mono (by omega)
  exact apart_b ((two_t (t s)).mono (by omega)) ((t s2).mono (by omega))
set_option maxRecDepth 100000 in
theorem nI_and (a b : Nat) : nI a &&& nI b = nI (a &&& b) := by
  apply Int32.toBitVec_inj.mp
  apply BitVec.eq_of_toNat_eq
  rw [Int32.toBitVec_and, BitVec.toNat_and]
  show (a % 2 ^ 32) &&& (b % 2 ^ 32) = (a &&& b) % 2 ^ 32
  exact (Nat.and_mod_two_pow (a := a) (b := b) (n := 32)).symm
set_option maxRecDepth 100000 in
theorem sub_le {i D : Nat} (hi : i < 256) (hD : D < 256) (h : nI i &&& (nI D ^^^ (-1)) = 0) : i ≤ D := by
  have e : nI i = nI (i &&& D) := by
    have e1 : nI i = nI i &&& nI D := by
      have := and_x (nI D ^^^ (-1)) (nI D) (nI i)
      rw [show (nI D ^^^ (-1)) ^^^ nI D = -1 from by rw [Int32.xor_comm, ← Int32.xor_assoc, Int32.xor_self, Int32.zero_xor], Int32.and_comm (nI D ^^^ -1), h, Int32.zero_xor, show (-1 : Int32) &&& nI i = nI i from by rw [Int32.neg_one_and]] at this
      rw [Int32.and_comm]
      exact this
    rw [e1]
    exact nI_and i D
  have := (nI_eq (by omega) (Nat.lt_of_le_of_lt Nat.and_le_left (by omega))).mp e
  rw [this]
  exact Nat.and_le_right
set_option maxRecDepth 100000 in
theorem fair_tail {K : Mem} {n D : Nat} {all : Int32} (hD : D < 256) {a f : Int32} : ∀ (k i : Nat), D < i → i + k ≤ 256 → fairK K n all (nI D) k i a f = (a, f)
  | 0, _, _, _ => rfl
  | k + 1, i, h1, h2 => by
    unfold fairK
    rw [if_neg (fun z => by have := sub_le (by omega) hD z.1; omega)]
    exact fair_tail hD k (i + 1) (by omega) (by omega)
set_option maxRecDepth 100000 in
theorem fair_p {K : Mem} {n : Nat} {all done a f : Int32} {k i : Nat} (h : nI i &&& (done ^^^ (-1)) = 0 ∧ absI (all - 2 * tipsK K (nI i) n 0 0) < f) : fairK K n all done (k + 1) i a f = fairK K n all done k (i + 1) (nI i) (absI (all - 2 * tipsK K (nI i) n 0 0)) := if_pos h
set_option maxRecDepth 100000 in
theorem fair_n {K : Mem} {n : Nat} {all done a f : Int32} {k i : Nat} (h : ¬ (nI i &&& (done ^^^ (-1)) = 0 ∧ absI (all - 2 * tipsK K (nI i) n 0 0) < f)) : fairK K n all done (k + 1) i a f = fairK K n all done k (i + 1) a f := if_neg h
set_option maxRecDepth 100000 in
theorem X5_tips_l (H : Rules C T) {S K : Mem} {d : Int32} {n D e : Nat} (R : RepM S K d) (g : Gd K n) {b : Int} (B : BK b K) (eD : K 0 1 = nI D) (he : D + 1 + e = 2 ^ n) {w : Int32} (hw : w = 0 ∨ w = 1 ∨ w = 2) {Q : Pst} : ∀ (k i : Nat) (a : Int32), i + k = D + 1 → Q (some (.int (if w = 0 then allT K n else sel1 w (fairK K n (allT K n) (nI D) (k + e) i a (absI (allT K n - 2 * tipsK K a n 0 0)))))) S → T mX5_tips Q 37 [some (.ref 25), some (.int w), some (.int (nI D)), some (.int (allT K n)), some (.int a), some (.int (nI i))] [] S := by
  have h8 := g.2.1
  have h256 := pow8 h8
  have eall : allT K n = tipsK K (K 0 1) n 0 0 := rfl
  intro k
  induction k with
  | zero =>
    intro i a hi h1
    have hge : nI D < nI i := nI_lt (by omega) (by omega)
    rw [Nat.zero_add, fair_tail (by omega) e i (by omega) (by omega)] at h1
    unfold sel1 at h1
    rcases hw with rfl | rfl | rfl
    · skip
      repeat' (first | (refine Rules.st H okX5_tips [37] ?_; (conv => whnf); try (show T _ _ _ [_, _, _, _, _, _] _ _)) | refine br_t (by first | decide | assumption) ?_ | refine br_f (by first | decide | assumption) ?_ | refine br_c (fun _ => ?_) (fun _ => ?_) | refine ⟨by decide, ?_⟩ | refine ⟨by first | assumption | (unfold vp_in; decide) | ((with_reducible (refine vp_in_nI ?_ ?_)) <;> omega), ?_⟩ | fail)
      exact h1
    · skip
      repeat' (first | (refine Rules.st H okX5_tips [37] ?_; (conv => whnf); try (show T _ _ _ [_, _, _, _, _, _] _ _)) | refine br_t (by first | decide | assumption) ?_ | refine br_f (by first | decide | assumption) ?_ | refine br_c (fun _ => ?_) (fun _ => ?_) | refine ⟨by decide, ?_⟩ | refine ⟨by first | assumption | (unfold vp_in; decide) | ((with_reducible (refine vp_in_nI ?_ ?_)) <;> omega), ?_⟩ | fail)
      exact h1
    · skip
      repeat' (first | (refine Rules.st H okX5_tips [37] ?_; (conv => whnf); try (show T _ _ _ [_, _, _, _, _, _] _ _)) | refine br_t (by first | decide | assumption) ?_ | refine br_f (by first | decide | assumption) ?_ | refine br_c (fun _ => ?_) (fun _ => ?_) | refine ⟨by decide, ?_⟩ | refine ⟨by first | assumption | (unfold vp_in; decide) | ((with_reducible (refine vp_in_nI ?_ ?_)) <;> omega), ?_⟩ | fail)
      refine X5_tipsOf H R g.1 h8 ?_
      repeat' (first | (refine Rules.st H okX5_tips [37] ?_; (conv => whnf); try (show T _ _ _ [_, _, _, _, _, _] _ _)) | refine br_t (by first | decide | assumption) ?_ | refine br_f (by first | decide | assumption) ?_ | refine br_c (fun _ => ?_) (fun _ => ?_) | refine ⟨by decide, ?_⟩ | refine ⟨by first | assumption | (unfold vp_in; decide) | ((with_reducible (refine vp_in_nI ?_ ?_)) <;> omega), ?_⟩ | fail)
      refine X5_apart H ?_
      rw [eall, fair_ap B h8]
      repeat' (first | (refine Rules.st H okX5_tips [37] ?_; (conv => whnf); try (show T _ _ _ [_, _, _, _, _, _] _ _)) | refine br_t (by first | decide | assumption) ?_ | refine br_f (by first | decide | assumption) ?_ | refine br_c (fun _ => ?_) (fun _ => ?_) | refine ⟨by decide, ?_⟩ | refine ⟨by first | assumption | (unfold vp_in; decide) | ((with_reducible (refine vp_in_nI ?_ ?_)) <;> omega), ?_⟩ | fail)
      exact h1
  | succ k ih =>
    intro i a hi h1
    have hge : ¬ nI D < nI i := Int32.not_lt.mpr (nI_le (by omega) (by omega))
    rw [Nat.add_right_comm] at h1
    by_cases q : nI i &&& (nI D ^^^ (-1)) = 0
    · skip
      repeat' (first | (refine Rules.st H okX5_tips [37] ?_; (conv => whnf); try (show T _ _ _ [_, _, _, _, _, _] _ _)) | refine br_t (by first | decide | assumption) ?_ | refine br_f (by first | decide | assumption) ?_ | refine br_c (fun _ => ?_) (fun _ => ?_) | refine ⟨by decide, ?_⟩ | refine ⟨by first | assumption | (unfold vp_in; decide) | ((with_reducible (refine vp_in_nI ?_ ?_)) <;> omega), ?_⟩ | fail)
      refine X5_tipsOf H R g.1 h8 ?_
      repeat' (first | (refine Rules.st H okX5_tips [37] ?_; (conv => whnf); try (show T _ _ _ [_, _, _, _, _, _] _ _)) | refine br_t (by first | decide | assumption) ?_ | refine br_f (by first | decide | assumption) ?_ | refine br_c (fun _ => ?_) (fun _ => ?_) | refine ⟨by decide, ?_⟩ | refine ⟨by first | assumption | (unfold vp_in; decide) | ((with_reducible (refine vp_in_nI ?_ ?_)) <;> omega), ?_⟩ | fail)
      refine X5_apart H ?_
      rw [eall, fair_ap B h8]
      repeat' (first | (refine Rules.st H okX5_tips [37] ?_; (conv => whnf); try (show T _ _ _ [_, _, _, _, _, _] _ _)) | refine br_t (by first | decide | assumption) ?_ | refine br_f (by first | decide | assumption) ?_ | refine br_c (fun _ => ?_) (fun _ => ?_) | refine ⟨by decide, ?_⟩ | refine ⟨by first | assumption | (unfold vp_in; decide) | ((with_reducible (refine vp_in_nI ?_ ?_)) <;> omega), ?_⟩ | fail)
      refine X5_tipsOf H R g.1 h8 ?_
      repeat' (first | (refine Rules.st H okX5_tips [37] ?_; (conv => whnf); try (show T _ _ _ [_, _, _, _, _, _] _ _)) | refine br_t (by first | decide | assumption) ?_ | refine br_f (by first | decide | assumption) ?_ | refine br_c (fun _ => ?_) (fun _ => ?_) | refine ⟨by decide, ?_⟩ | refine ⟨by first | assumption | (unfold vp_in; decide) | ((with_reducible (refine vp_in_nI ?_ ?_)) <;> omega), ?_⟩ | fail)
      refine X5_apart H ?_
      rw [fair_ap B h8, ← eall]
      by_cases q2 : absI (allT K n - 2 * tipsK K (nI i) n 0 0) < absI (allT K n - 2 * tipsK K a n 0 0)
      · rw [fair_p ⟨q, q2⟩] at h1
        have q3 := Int32.not_le.mpr q2
        repeat' (first | (refine Rules.st H okX5_tips [37] ?_; (conv => whnf); try (show T _ _ _ [_, _, _, _, _, _] _ _)) | refine br_t (by first | decide | assumption) ?_ | refine br_f (by first | decide | assumption) ?_ | refine br_c (fun _ => ?_) (fun _ => ?_) | refine ⟨by decide, ?_⟩ | refine ⟨by first | assumption | (unfold vp_in; decide) | ((with_reducible (refine vp_in_nI ?_ ?_)) <;> omega), ?_⟩ | fail)
        refine Halt.mk ?_
        rw [nI_1]
        exact ih (i + 1) _ (by omega) h1
      · rw [fair_n (fun z => q2 z.2)] at h1
        have q3 := Int32.not_lt.mp q2
        repeat' (first | (refine Rules.st H okX5_tips [37] ?_; (conv => whnf); try (show T _ _ _ [_, _, _, _, _, _] _ _)) | refine br_t (by first | decide | assumption) ?_ | refine br_f (by first | decide | assumption) ?_ | refine br_c (fun _ => ?_) (fun _ => ?_) | refine ⟨by decide, ?_⟩ | refine ⟨by first | assumption | (unfold vp_in; decide) | ((with_reducible (refine vp_in_nI ?_ ?_)) <;> omega), ?_⟩ | fail)
        refine Halt.mk ?_
        rw [nI_1]
        exact ih (i + 1) _ (by omega) h1
    · rw [fair_n (fun z => q z.1)] at h1
      skip
      repeat' (first | (refine Rules.st H okX5_tips [37] ?_; (conv => whnf); try (show T _ _ _ [_, _, _, _, _, _] _ _)) | refine br_t (by first | decide | assumption) ?_ | refine br_f (by first | decide | assumption) ?_ | refine br_c (fun _ => ?_) (fun _ => ?_) | refine ⟨by decide, ?_⟩ | refine ⟨by first | assumption | (unfold vp_in; decide) | ((with_reducible (refine vp_in_nI ?_ ?_)) <;> omega), ?_⟩ | fail)
      refine Halt.mk ?_
      rw [nI_1]
      exact ih (i + 1) _ (by omega) h1
set_option maxRecDepth 100000 in
theorem bt0 : ∀ i, i < 8 → bt 0 i = 0 := by decide
set_option maxRecDepth 100000 in
theorem tips0 {K : Mem} {s : Int32} (hs : s = 0) : ∀ (k i : Nat) (a : Int32), i + k ≤ 8 → tipsK K s k i a = a
  | 0, _, _, _ => rfl
  | k + 1, i, a, h => by
    unfold tipsK
    rw [hs, if_pos (bt0 i (by omega)), ← hs]
    exact tips0 hs k (i + 1) a (by omega)
set_option maxRecDepth 100000 in
theorem X5_tips (H : Rules C T) {S K : Mem} {n : Nat} (X : XM S K n) {b : Int} (B : BK b K) {w : Int32} {Q : Pst} (h1 : AnsM S (F_tips K n w) Q) : C mX5_tips [.ref 25, .int w] S Q := by
  obtain ⟨⟨d, R⟩, g, hz⟩ := X
  have h8 := g.2.1
  unfold F_tips at h1
  refine Rules.go H (by decide) (Nat.le_of_ble_eq_true rfl) ?_
  repeat' (first | (refine Rules.st H okX5_tips [37] ?_; (conv => whnf); try (show T _ _ _ [_, _, _, _, _, _] _ _)) | refine br_t (by first | decide | assumption) ?_ | refine br_f (by first | decide | assumption) ?_ | refine br_c (fun _ => ?_) (fun _ => ?_) | refine ⟨by decide, ?_⟩ | refine ⟨by first | assumption | (unfold vp_in; decide) | ((with_reducible (refine vp_in_nI ?_ ?_)) <;> omega), ?_⟩ | fail)
  refine X5_isIn H (fun q1 q2 => ?_) (fun q => ?_)
  · rw [if_neg (w2y q1 q2)] at h1
    obtain ⟨D, hD, eD⟩ := g.2.2.1
    have h1 := h1 S ScM.rf
    repeat' (first | (refine Rules.st H okX5_tips [37] ?_; (conv => whnf); try (show T _ _ _ [_, _, _, _, _, _] _ _)) | refine br_t (by first | decide | assumption) ?_ | refine br_f (by first | decide | assumption) ?_ | refine br_c (fun _ => ?_) (fun _ => ?_) | refine ⟨by decide, ?_⟩ | refine ⟨by first | assumption | (unfold vp_in; decide) | ((with_reducible (refine vp_in_nI ?_ ?_)) <;> omega), ?_⟩ | fail)
    refine X5_setOf H (f := 1) (Or.inl rfl) R g ?_
    repeat' (first | (refine Rules.st H okX5_tips [37] ?_; (conv => whnf); try (show T _ _ _ [_, _, _, _, _, _] _ _)) | refine br_t (by first | decide | assumption) ?_ | refine br_f (by first | decide | assumption) ?_ | refine br_c (fun _ => ?_) (fun _ => ?_) | refine ⟨by decide, ?_⟩ | refine ⟨by first | assumption | (unfold vp_in; decide) | ((with_reducible (refine vp_in_nI ?_ ?_)) <;> omega), ?_⟩ | fail)
    refine X5_tipsOf H R g.1 h8 ?_
    repeat' (first | (refine Rules.st H okX5_tips [37] ?_; (conv => whnf); try (show T _ _ _ [_, _, _, _, _, _] _ _)) | refine br_t (by first | decide | assumption) ?_ | refine br_f (by first | decide | assumption) ?_ | refine br_c (fun _ => ?_) (fun _ => ?_) | refine ⟨by decide, ?_⟩ | refine ⟨by first | assumption | (unfold vp_in; decide) | ((with_reducible (refine vp_in_nI ?_ ?_)) <;> omega), ?_⟩ | fail)
    refine Halt.mk ?_
    have t : isT 144 (allT K n) := (tips_t B (K 0 1) n 0 0 0 (by omega) (by unfold isT; decide) (by omega)).mono (by omega)
    have e0 : absI (allT K n - 2 * tipsK K 0 n 0 0) = allT K n := by
      rw [tips0 rfl n 0 0 (by omega), Int32.mul_zero, Int32.sub_zero]
      unfold absI
      rw [if_pos (by
        rw [leT]
        have z : (0 : Int32).toInt = 0 := by decide
        rw [z]
        exact t.1)]
    show T mX5_tips Q 37 [some (.ref 25), some (.int w), some (.int (K 0 1)), some (.int (allT K n)), some (.int 0), some (.int (nI 0))] [] S
    rw [eD]
    refine X5_tips_l H (e := 2 ^ n - D - 1) R g B eD (by omega) (w3 q1 q2) (D + 1) 0 0 (by omega) ?_
    rw [e0, show D + 1 + (2 ^ n - D - 1) = 2 ^ n by omega, ← eD]
    exact h1
  · rw [if_pos (w2n q)] at h1
    repeat' (first | (refine Rules.st H okX5_tips [37] ?_; (conv => whnf); try (show T _ _ _ [_, _, _, _, _, _] _ _)) | refine br_t (by first | decide | assumption) ?_ | refine br_f (by first | decide | assumption) ?_ | refine br_c (fun _ => ?_) (fun _ => ?_) | refine ⟨by decide, ?_⟩ | refine ⟨by first | assumption | (unfold vp_in; decide) | ((with_reducible (refine vp_in_nI ?_ ?_)) <;> omega), ?_⟩ | fail)
    refine X5_no H ScM.rf (k := 2) (by omega) (by omega) (by decide) (fun S' hS' => ?_)
    repeat' (first | (refine Rules.st H okX5_tips [37] ?_; (conv => whnf); try (show T _ _ _ [_, _, _, _, _, _] _ _)) | refine br_t (by first | decide | assumption) ?_ | refine br_f (by first | decide | assumption) ?_ | refine br_c (fun _ => ?_) (fun _ => ?_) | refine ⟨by decide, ?_⟩ | refine ⟨by first | assumption | (unfold vp_in; decide) | ((with_reducible (refine vp_in_nI ?_ ?_)) <;> omega), ?_⟩ | fail)
    exact h1 S' hS'
end M29
