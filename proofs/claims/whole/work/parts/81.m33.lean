section M33
variable {C : Cst} {T : Nat → Pst → Nat → Lcs → List Value → Mem → Prop}
def prtL (u : Int64) (s : Int32) : Nat → Nat → Int64 → Int64
  | 0, _, a => a
  | k + 1, i, a => prtL u s k (i + 1) (if bt s i = 1 then a * 1 else a * u)
def czN (s : Int32) : Nat → Nat → Nat
  | 0, _ => 0
  | k + 1, i => (if bt s i = 1 then 0 else 1) + czN s k (i + 1)
set_option maxRecDepth 100000 in
theorem cz_pop : ∀ n, n < 9 → ∀ D, D < 2 ^ n → czN (nI D) n 0 = n - popN D := by decide +kernel
set_option maxRecDepth 100000 in
theorem prt_pow (u : Int64) (s : Int32) : ∀ (k i : Nat) (a : Int64), prtL u s k i a = powL u (czN s k i) a
  | 0, _, _ => rfl
  | k + 1, i, a => by
    unfold prtL czN
    rw [prt_pow u s k (i + 1)]
    split
    · rw [Int64.mul_one, Nat.zero_add]
    · rw [Nat.add_comm 1]
      rfl
set_option maxRecDepth 100000 in
theorem pow_t : ∀ j, j < 21 → 2 ≤ j → ∀ c, c < 9 → (0 ≤ (powL (nI j - 1).toInt64 c 1).toInt ∧ (powL (nI j - 1).toInt64 c 1).toInt ≤ 68719476736) ∧ 0 < (powL (nI j).toInt64 c 1).toInt ∧ (powL (nI j).toInt64 c 1).toInt < 2 ^ 40 := by decide +kernel
set_option maxRecDepth 100000 in
theorem RepM.putS {S K : Mem} {d x : Int32} (R : RepM S K d) : RepM (up S 25 21 x) (up K 0 3 x) d := R.put (fun b i hi => by
  unfold inM at hi
  rcases hi with ⟨rfl, hi⟩ | ⟨rfl | rfl | rfl | rfl, hb⟩ | ⟨hb, hj⟩
  · rw [mv25, mv25]
    rcases hi with rfl | rfl | rfl
    · rw [if_pos rfl, if_neg (by omega), if_pos rfl, up_j (by omega)]
    · rw [if_neg (by omega), if_pos rfl, if_pos ⟨rfl, rfl⟩, up_at]
    · rw [if_neg (by omega), if_neg (by omega), if_neg (by omega), if_neg (by omega), if_neg (by omega), up_j (by omega)]
  · rw [mv27, mv27, if_neg (by omega), up_k (by omega)]
  · rw [mv28, mv28, if_neg (by omega), up_k (by omega)]
  · rw [mv29, mv29, if_neg (by omega), up_j (by omega)]
  · rw [mv30, mv30, if_neg (by omega), up_j (by omega)]
  · rw [mv31 _ _ _ (by omega), mv31 _ _ _ (by omega), if_neg (by omega), up_k (by omega)])
set_option maxRecDepth 100000 in
theorem X5_likely_1 (H : Rules C T) {S : Mem} {n : Nat} (h8 : n ≤ 8) (e8 : S 25 8 = nI n) {m v t p : Int32} {Q : Pst} : ∀ (k i : Nat) (a : Int64), i + k = n → T mX5_likely Q 103 [some (.ref 25), some (.int m), some (.int v), some (.int t), some (.int p), some (.int 0), some (.long 0), none, some (.long (powL t.toInt64 k a)), none, some (.int (nI n)), none, none, none] [] S → T mX5_likely Q 81 [some (.ref 25), some (.int m), some (.int v), some (.int t), some (.int p), some (.int 0), some (.long 0), none, some (.long a), none, some (.int (nI i)), none, none, none] [] S := by
  intro k
  induction k with
  | zero =>
    intro i a hi h1
    have hge : S 25 8 ≤ nI i := by rw [e8]; exact nI_le (by omega) (by omega)
    rw [show n = i by omega] at h1
    skip
    repeat' (first | (refine Rules.st H okX5_likely [81, 103] ?_; (conv => whnf); try (show T _ _ _ [_, _, _, _, _, _, _, _, _, _, _, _, _, _] _ _)) | refine br_t (by first | decide | assumption) ?_ | refine br_f (by first | decide | assumption) ?_ | refine br_c (fun _ => ?_) (fun _ => ?_) | refine ⟨by decide, ?_⟩ | refine ⟨by first | assumption | (unfold vp_in; decide) | ((with_reducible (refine vp_in_nI ?_ ?_)) <;> omega), ?_⟩ | fail)
    exact Halt.mk h1
  | succ k ih =>
    intro i a hi h1
    have hge : ¬ S 25 8 ≤ nI i := by rw [e8]; exact nI_ge (by omega) (by omega)
    skip
    repeat' (first | (refine Rules.st H okX5_likely [81, 103] ?_; (conv => whnf); try (show T _ _ _ [_, _, _, _, _, _, _, _, _, _, _, _, _, _] _ _)) | refine br_t (by first | decide | assumption) ?_ | refine br_f (by first | decide | assumption) ?_ | refine br_c (fun _ => ?_) (fun _ => ?_) | refine ⟨by decide, ?_⟩ | refine ⟨by first | assumption | (unfold vp_in; decide) | ((with_reducible (refine vp_in_nI ?_ ?_)) <;> omega), ?_⟩ | fail)
    refine Halt.mk ?_
    rw [nI_1]
    exact ih (i + 1) _ (by omega) h1
set_option maxRecDepth 100000 in
theorem X5_likely_2 (H : Rules C T) {S : Mem} {n s : Nat} (h8 : n ≤ 8) (e8 : S 25 8 = nI n) {m v t p : Int32} {x y : Int64} {Q : Pst} : ∀ (k i : Nat) (a : Int64), i + k = n → T mX5_likely Q 161 [some (.ref 25), some (.int m), some (.int v), some (.int t), some (.int p), some (.int 0), some (.long x), none, some (.long y), none, some (.int (nI s)), some (.long (prtL (t - 1).toInt64 (nI s) k i a)), none, some (.int (nI n))] [] S → T mX5_likely Q 123 [some (.ref 25), some (.int m), some (.int v), some (.int t), some (.int p), some (.int 0), some (.long x), none, some (.long y), none, some (.int (nI s)), some (.long a), none, some (.int (nI i))] [] S := by
  intro k
  induction k with
  | zero =>
    intro i a hi h1
    have hge : S 25 8 ≤ nI i := by rw [e8]; exact nI_le (by omega) (by omega)
    rw [show n = i by omega] at h1
    skip
    repeat' (first | (refine Rules.st H okX5_likely [123, 161] ?_; (conv => whnf); try (show T _ _ _ [_, _, _, _, _, _, _, _, _, _, _, _, _, _] _ _)) | refine br_t (by first | decide | assumption) ?_ | refine br_f (by first | decide | assumption) ?_ | refine br_c (fun _ => ?_) (fun _ => ?_) | refine ⟨by decide, ?_⟩ | refine ⟨by first | assumption | (unfold vp_in; decide) | ((with_reducible (refine vp_in_nI ?_ ?_)) <;> omega), ?_⟩ | fail)
    exact Halt.mk h1
  | succ k ih =>
    intro i a hi h1
    have hge : ¬ S 25 8 ≤ nI i := by rw [e8]; exact nI_ge (by omega) (by omega)
    unfold prtL at h1
    skip
    repeat' (first | (refine Rules.st H okX5_likely [123, 161] ?_; (conv => whnf); try (show T _ _ _ [_, _, _, _, _, _, _, _, _, _, _, _, _, _] _ _)) | refine br_t (by first | decide | assumption) ?_ | refine br_f (by first | decide | assumption) ?_ | refine br_c (fun _ => ?_) (fun _ => ?_) | refine ⟨by decide, ?_⟩ | refine ⟨by first | assumption | (unfold vp_in; decide) | ((with_reducible (refine vp_in_nI ?_ ?_)) <;> omega), ?_⟩ | fail)
    refine X5_has H (fun q => ?_) (fun q => ?_)
    · rw [if_pos q] at h1
      repeat' (first | (refine Rules.st H okX5_likely [123, 161] ?_; (conv => whnf); try (show T _ _ _ [_, _, _, _, _, _, _, _, _, _, _, _, _, _] _ _)) | refine br_t (by first | decide | assumption) ?_ | refine br_f (by first | decide | assumption) ?_ | refine br_c (fun _ => ?_) (fun _ => ?_) | refine ⟨by decide, ?_⟩ | refine ⟨by first | assumption | (unfold vp_in; decide) | ((with_reducible (refine vp_in_nI ?_ ?_)) <;> omega), ?_⟩ | fail)
      refine Halt.mk ?_
      rw [nI_1]
      exact ih (i + 1) _ (by omega) h1
    · rw [if_neg q] at h1
      repeat' (first | (refine Rules.st H okX5_likely [123, 161] ?_; (conv => whnf); try (show T _ _ _ [_, _, _, _, _, _, _, _, _, _, _, _, _, _] _ _)) | refine br_t (by first | decide | assumption) ?_ | refine br_f (by first | decide | assumption) ?_ | refine br_c (fun _ => ?_) (fun _ => ?_) | refine ⟨by decide, ?_⟩ | refine ⟨by first | assumption | (unfold vp_in; decide) | ((with_reducible (refine vp_in_nI ?_ ?_)) <;> omega), ?_⟩ | fail)
      refine Halt.mk ?_
      rw [nI_1]
      exact ih (i + 1) _ (by omega) h1
set_option maxRecDepth 100000 in
theorem X5_likely_3 (H : Rules C T) {S K : Mem} {n m j : Nat} (hm : m < 2) (X : XM S K n) {v p : Int32} (hj : j < 21) (hj2 : 2 ≤ j) (hp : p = 0 ∨ p = 1) {Q : Pst} : ∀ (k s : Nat) (a : Int64) (y1 y2 y3 : Option Value) (S1 : Mem), s + k = 2 ^ n → 0 ≤ a.toInt → a.toInt ≤ 68719476736 * s → ScM 0 S S1 → (∀ S2, ScM 0 S S2 → Q (some (.long (partL (likK K n m v (nI j) k s a) (powL (nI j).toInt64 n 1) p))) S2) → T mX5_likely Q 106 [some (.ref 25), some (.int (nI m)), some (.int v), some (.int (nI j)), some (.int p), some (.int 0), some (.long a), none, some (.long (powL (nI j).toInt64 n 1)), none, some (.int (nI s)), y1, y2, y3] [] S1 := by
  obtain ⟨⟨d, R⟩, g, hz⟩ := X
  have h8 := g.2.1
  have h256 := pow8 h8
  obtain ⟨_, p1, p2⟩ := pow_t j hj hj2 n (by omega)
  intro k
  induction k with
  | zero =>
    intro s a y1 y2 y3 S1 hs a0 a1 s1 h1
    obtain ⟨d1, R1⟩ := s1.rep R
    have hge : (1 : Int32) <<< (S1 25 8 &&& 31) ≤ nI s := by rw [R1.rm, g.1, shl1 n h8]; exact nI_le (by omega) (by omega)
    have h1 := h1 S1 s1
    skip
    repeat' (first | (refine Rules.st H okX5_likely [106, 123] ?_; (conv => whnf); try (show T _ _ _ [_, _, _, _, _, _, _, _, _, _, _, _, _, _] _ _)) | refine br_t (by first | decide | assumption) ?_ | refine br_f (by first | decide | assumption) ?_ | refine br_c (fun _ => ?_) (fun _ => ?_) | refine ⟨by decide, ?_⟩ | refine ⟨by first | assumption | (unfold vp_in; decide) | ((with_reducible (refine vp_in_nI ?_ ?_)) <;> omega), ?_⟩ | fail)
    refine X5_partOf H (fin_of 40 100 _ _ (by omega) a0 (by omega) p2) (ne0 p1) hp ?_
    repeat' (first | (refine Rules.st H okX5_likely [106, 123] ?_; (conv => whnf); try (show T _ _ _ [_, _, _, _, _, _, _, _, _, _, _, _, _, _] _ _)) | refine br_t (by first | decide | assumption) ?_ | refine br_f (by first | decide | assumption) ?_ | refine br_c (fun _ => ?_) (fun _ => ?_) | refine ⟨by decide, ?_⟩ | refine ⟨by first | assumption | (unfold vp_in; decide) | ((with_reducible (refine vp_in_nI ?_ ?_)) <;> omega), ?_⟩ | fail)
    exact h1
  | succ k ih =>
    intro s a y1 y2 y3 S1 hs a0 a1 s1 h1
    obtain ⟨d1, R1⟩ := s1.rep R
    have e8 : S1 25 8 = nI n := R1.rm.trans g.1
    have hge : ¬ (1 : Int32) <<< (S1 25 8 &&& 31) ≤ nI s := by rw [e8, shl1 n h8]; exact nI_ge (by omega) (by omega)
    have pp := (pop_t n (by omega) s (by omega)).2
    obtain ⟨⟨u0, u1⟩, _⟩ := pow_t j hj hj2 (n - popN s) (by omega)
    unfold likK at h1
    skip
    repeat' (first | (refine Rules.st H okX5_likely [106, 123] ?_; (conv => whnf); try (show T _ _ _ [_, _, _, _, _, _, _, _, _, _, _, _, _, _] _ _)) | refine br_t (by first | decide | assumption) ?_ | refine br_f (by first | decide | assumption) ?_ | refine br_c (fun _ => ?_) (fun _ => ?_) | refine ⟨by decide, ?_⟩ | refine ⟨by first | assumption | (unfold vp_in; decide) | ((with_reducible (refine vp_in_nI ?_ ?_)) <;> omega), ?_⟩ | fail)
    refine Halt.mk ?_
    refine X5_likely_2 H (n := n) (s := s) h8 e8 n 0 1 (by omega) ?_
    rw [prt_pow, cz_pop n (by omega) s (by omega)]
    have R2 : RepM (up S1 25 21 (nI s)) (up K 0 3 (nI s)) d1 := R1.putS
    generalize powL (nI j - 1).toInt64 (n - popN s) 1 = W at h1 u0 u1 ⊢
    skip
    repeat' (first | (refine Rules.st H okX5_likely [106, 123] ?_; (conv => whnf); try (show T _ _ _ [_, _, _, _, _, _, _, _, _, _, _, _, _, _] _ _)) | refine br_t (by first | decide | assumption) ?_ | refine br_f (by first | decide | assumption) ?_ | refine br_c (fun _ => ?_) (fun _ => ?_) | refine ⟨by decide, ?_⟩ | refine ⟨by first | assumption | (unfold vp_in; decide) | ((with_reducible (refine vp_in_nI ?_ ?_)) <;> omega), ?_⟩ | fail)
    refine X5_longMinutes H hm R2 (g.u (by omega)) hz.2 (fun S2 s2 _ e32 _ => ?_)
    have e21 : S1 25 21 = 0 := R1.st.trans hz.1
    have s3 : ScM 0 S (up S2 25 21 0) := by
      rw [← e21]
      exact s1.tr ((ScA.of ScM.rf : ScA 25 21 S1 S1).put s2).back
    have e32' : up S2 25 21 0 25 32 = pcI (longK m n (up K 0 3 (nI s)) 0 1) := by rw [up_j (by omega)]; exact e32
    by_cases q : v ≤ pcI (longK m n (up K 0 3 (nI s)) 0 1)
    · have q2 : ¬ up S2 25 21 0 25 32 < v := by rw [e32']; exact Int32.not_lt.mpr q
      have ea : (a + W).toInt = a.toInt + W.toInt := add64 (by omega) (by omega)
      rw [if_pos q] at h1
      repeat' (first | (refine Rules.st H okX5_likely [106, 123] ?_; (conv => whnf); try (show T _ _ _ [_, _, _, _, _, _, _, _, _, _, _, _, _, _] _ _)) | refine br_t (by first | decide | assumption) ?_ | refine br_f (by first | decide | assumption) ?_ | refine br_c (fun _ => ?_) (fun _ => ?_) | refine ⟨by decide, ?_⟩ | refine ⟨by first | assumption | (unfold vp_in; decide) | ((with_reducible (refine vp_in_nI ?_ ?_)) <;> omega), ?_⟩ | fail)
      refine Halt.mk ?_
      rw [nI_1]
      exact ih (s + 1) _ _ _ _ _ (by omega) (by rw [ea]; omega) (by rw [ea]; omega) s3 h1
    · have q2 : up S2 25 21 0 25 32 < v := by rw [e32']; exact Int32.not_le.mp q
      rw [if_neg q] at h1
      repeat' (first | (refine Rules.st H okX5_likely [106, 123] ?_; (conv => whnf); try (show T _ _ _ [_, _, _, _, _, _, _, _, _, _, _, _, _, _] _ _)) | refine br_t (by first | decide | assumption) ?_ | refine br_f (by first | decide | assumption) ?_ | refine br_c (fun _ => ?_) (fun _ => ?_) | refine ⟨by decide, ?_⟩ | refine ⟨by first | assumption | (unfold vp_in; decide) | ((with_reducible (refine vp_in_nI ?_ ?_)) <;> omega), ?_⟩ | fail)
      refine Halt.mk ?_
      rw [nI_1, show (a + Int64.ofNat 0) = a from Int64.add_zero _]
      exact ih (s + 1) _ _ _ _ _ (by omega) a0 (by omega) s3 h1
set_option maxRecDepth 100000 in
theorem X5_likely (H : Rules C T) {S K : Mem} {n : Nat} (X : XM S K n) {m v t p : Int32} {Q : Pst} (h1 : AnsML S (F_likely K n m v t p) Q) : C mX5_likely [.ref 25, .int m, .int v, .int t, .int p] S Q := by
  have X0 := X
  obtain ⟨⟨d, R⟩, g, hz⟩ := X
  have h8 := g.2.1
  have e8 : S 25 8 = nI n := R.rm.trans g.1
  unfold F_likely at h1
  refine Rules.go H (by decide) (Nat.le_of_ble_eq_true rfl) ?_
  repeat' (first | (refine Rules.st H okX5_likely [81] ?_; (conv => whnf); try (show T _ _ _ [_, _, _, _, _, _, _, _, _, _, _, _, _, _] _ _)) | refine br_t (by first | decide | assumption) ?_ | refine br_f (by first | decide | assumption) ?_ | refine br_c (fun _ => ?_) (fun _ => ?_) | refine ⟨by decide, ?_⟩ | refine ⟨by first | assumption | (unfold vp_in; decide) | ((with_reducible (refine vp_in_nI ?_ ?_)) <;> omega), ?_⟩ | fail)
  refine X5_isMaid H (fun i hi e => ?_) (fun hno => ?_)
  · subst e
    rw [if_pos (okM_nI hi), show ix (nI i) = i from nIc (by omega)] at h1
    have bad4 : (v < 0 ∨ t < 2) → T mX5_likely Q 58 [some (.ref 25), some (.int (nI i)), some (.int v), some (.int t), some (.int p), none, none, none, none, none, none, none, none, none] [.int (-4)] S := fun z => by
      rw [if_pos z] at h1
      skip
      repeat' (first | (refine Rules.st H okX5_likely [] ?_; (conv => whnf); try (show T _ _ _ [_, _, _, _, _, _, _, _, _, _, _, _, _, _] _ _)) | refine br_t (by first | decide | assumption) ?_ | refine br_f (by first | decide | assumption) ?_ | refine br_c (fun _ => ?_) (fun _ => ?_) | refine ⟨by decide, ?_⟩ | refine ⟨by first | assumption | (unfold vp_in; decide) | ((with_reducible (refine vp_in_nI ?_ ?_)) <;> omega), ?_⟩ | fail)
      refine X5_lowestOf H ScM.rf (k := 4) (by omega) (by omega) (by decide) (fun S' hS' => ?_)
      repeat' (first | (refine Rules.st H okX5_likely [] ?_; (conv => whnf); try (show T _ _ _ [_, _, _, _, _, _, _, _, _, _, _, _, _, _] _ _)) | refine br_t (by first | decide | assumption) ?_ | refine br_f (by first | decide | assumption) ?_ | refine br_c (fun _ => ?_) (fun _ => ?_) | refine ⟨by decide, ?_⟩ | refine ⟨by first | assumption | (unfold vp_in; decide) | ((with_reducible (refine vp_in_nI ?_ ?_)) <;> omega), ?_⟩ | fail)
      exact h1 S' hS'
    have bad6 : ¬ (v < 0 ∨ t < 2) → (8 < v ∨ 20 < t) → T mX5_likely Q 58 [some (.ref 25), some (.int (nI i)), some (.int v), some (.int t), some (.int p), none, none, none, none, none, none, none, none, none] [.int (-6)] S := fun z z2 => by
      rw [if_neg z, if_pos z2] at h1
      skip
      repeat' (first | (refine Rules.st H okX5_likely [] ?_; (conv => whnf); try (show T _ _ _ [_, _, _, _, _, _, _, _, _, _, _, _, _, _] _ _)) | refine br_t (by first | decide | assumption) ?_ | refine br_f (by first | decide | assumption) ?_ | refine br_c (fun _ => ?_) (fun _ => ?_) | refine ⟨by decide, ?_⟩ | refine ⟨by first | assumption | (unfold vp_in; decide) | ((with_reducible (refine vp_in_nI ?_ ?_)) <;> omega), ?_⟩ | fail)
      refine X5_lowestOf H ScM.rf (k := 6) (by omega) (by omega) (by decide) (fun S' hS' => ?_)
      repeat' (first | (refine Rules.st H okX5_likely [] ?_; (conv => whnf); try (show T _ _ _ [_, _, _, _, _, _, _, _, _, _, _, _, _, _] _ _)) | refine br_t (by first | decide | assumption) ?_ | refine br_f (by first | decide | assumption) ?_ | refine br_c (fun _ => ?_) (fun _ => ?_) | refine ⟨by decide, ?_⟩ | refine ⟨by first | assumption | (unfold vp_in; decide) | ((with_reducible (refine vp_in_nI ?_ ?_)) <;> omega), ?_⟩ | fail)
      exact h1 S' hS'
    by_cases c1 : v < 0
    · skip
      repeat' (first | (refine Rules.st H okX5_likely [58] ?_; (conv => whnf); try (show T _ _ _ [_, _, _, _, _, _, _, _, _, _, _, _, _, _] _ _)) | refine br_t (by first | decide | assumption) ?_ | refine br_f (by first | decide | assumption) ?_ | refine br_c (fun _ => ?_) (fun _ => ?_) | refine ⟨by decide, ?_⟩ | refine ⟨by first | assumption | (unfold vp_in; decide) | ((with_reducible (refine vp_in_nI ?_ ?_)) <;> omega), ?_⟩ | fail)
      exact Halt.mk (bad4 (Or.inl c1))
    by_cases c2 : t < 2
    · have c2' := Int32.not_le.mpr c2
      skip
      repeat' (first | (refine Rules.st H okX5_likely [58] ?_; (conv => whnf); try (show T _ _ _ [_, _, _, _, _, _, _, _, _, _, _, _, _, _] _ _)) | refine br_t (by first | decide | assumption) ?_ | refine br_f (by first | decide | assumption) ?_ | refine br_c (fun _ => ?_) (fun _ => ?_) | refine ⟨by decide, ?_⟩ | refine ⟨by first | assumption | (unfold vp_in; decide) | ((with_reducible (refine vp_in_nI ?_ ?_)) <;> omega), ?_⟩ | fail)
      exact Halt.mk (bad4 (Or.inr c2))
    have c2' := Int32.not_lt.mp c2
    have c12 : ¬ (v < 0 ∨ t < 2) := fun z => z.elim c1 c2
    by_cases c3 : 8 < v
    · skip
      repeat' (first | (refine Rules.st H okX5_likely [58] ?_; (conv => whnf); try (show T _ _ _ [_, _, _, _, _, _, _, _, _, _, _, _, _, _] _ _)) | refine br_t (by first | decide | assumption) ?_ | refine br_f (by first | decide | assumption) ?_ | refine br_c (fun _ => ?_) (fun _ => ?_) | refine ⟨by decide, ?_⟩ | refine ⟨by first | assumption | (unfold vp_in; decide) | ((with_reducible (refine vp_in_nI ?_ ?_)) <;> omega), ?_⟩ | fail)
      exact Halt.mk (bad6 c12 (Or.inl c3))
    by_cases c4 : 20 < t
    · have c4' := Int32.not_le.mpr c4
      skip
      repeat' (first | (refine Rules.st H okX5_likely [58] ?_; (conv => whnf); try (show T _ _ _ [_, _, _, _, _, _, _, _, _, _, _, _, _, _] _ _)) | refine br_t (by first | decide | assumption) ?_ | refine br_f (by first | decide | assumption) ?_ | refine br_c (fun _ => ?_) (fun _ => ?_) | refine ⟨by decide, ?_⟩ | refine ⟨by first | assumption | (unfold vp_in; decide) | ((with_reducible (refine vp_in_nI ?_ ?_)) <;> omega), ?_⟩ | fail)
      exact Halt.mk (bad6 c12 (Or.inr c4))
    have c4' := Int32.not_lt.mp c4
    have c34 : ¬ (8 < v ∨ 20 < t) := fun z => z.elim c3 c4
    rw [if_neg c12, if_neg c34] at h1
    skip
    repeat' (first | (refine Rules.st H okX5_likely [81] ?_; (conv => whnf); try (show T _ _ _ [_, _, _, _, _, _, _, _, _, _, _, _, _, _] _ _)) | refine br_t (by first | decide | assumption) ?_ | refine br_f (by first | decide | assumption) ?_ | refine br_c (fun _ => ?_) (fun _ => ?_) | refine ⟨by decide, ?_⟩ | refine ⟨by first | assumption | (unfold vp_in; decide) | ((with_reducible (refine vp_in_nI ?_ ?_)) <;> omega), ?_⟩ | fail)
    refine X5_isIn H (fun q1 q2 => ?_) (fun q => ?_)
    · rw [if_neg (w2y q1 q2)] at h1
      have t0 : ¬ t < 0 := fun z => c2 (Int32.lt_trans z (by decide))
      obtain ⟨j, hj, rfl⟩ := nI_of t0
      have j2 : 2 ≤ j := by
        rw [ltT, nIt hj] at c2
        have : (2 : Int32).toInt = 2 := by decide
        omega
      have j20 : j < 21 := by
        rw [ltT, nIt hj] at c4
        have : (20 : Int32).toInt = 20 := by decide
        omega
      repeat' (first | (refine Rules.st H okX5_likely [81] ?_; (conv => whnf); try (show T _ _ _ [_, _, _, _, _, _, _, _, _, _, _, _, _, _] _ _)) | refine br_t (by first | decide | assumption) ?_ | refine br_f (by first | decide | assumption) ?_ | refine br_c (fun _ => ?_) (fun _ => ?_) | refine ⟨by decide, ?_⟩ | refine ⟨by first | assumption | (unfold vp_in; decide) | ((with_reducible (refine vp_in_nI ?_ ?_)) <;> omega), ?_⟩ | fail)
      refine Halt.mk ?_
      refine X5_likely_1 H h8 e8 n 0 1 (by omega) ?_
      skip
      repeat' (first | (refine Rules.st H okX5_likely [106] ?_; (conv => whnf); try (show T _ _ _ [_, _, _, _, _, _, _, _, _, _, _, _, _, _] _ _)) | refine br_t (by first | decide | assumption) ?_ | refine br_f (by first | decide | assumption) ?_ | refine br_c (fun _ => ?_) (fun _ => ?_) | refine ⟨by decide, ?_⟩ | refine ⟨by first | assumption | (unfold vp_in; decide) | ((with_reducible (refine vp_in_nI ?_ ?_)) <;> omega), ?_⟩ | fail)
      refine Halt.mk ?_
      exact X5_likely_3 H hi X0 j20 j2 (w2' q1 q2) (2 ^ n) 0 0 none none none S (by omega) (by decide) (by decide) ScM.rf (fun S2 s2 => h1 S2 s2)
    · rw [if_pos (w2n q)] at h1
      skip
      repeat' (first | (refine Rules.st H okX5_likely [] ?_; (conv => whnf); try (show T _ _ _ [_, _, _, _, _, _, _, _, _, _, _, _, _, _] _ _)) | refine br_t (by first | decide | assumption) ?_ | refine br_f (by first | decide | assumption) ?_ | refine br_c (fun _ => ?_) (fun _ => ?_) | refine ⟨by decide, ?_⟩ | refine ⟨by first | assumption | (unfold vp_in; decide) | ((with_reducible (refine vp_in_nI ?_ ?_)) <;> omega), ?_⟩ | fail)
      refine X5_lowestOf H ScM.rf (k := 2) (by omega) (by omega) (by decide) (fun S' hS' => ?_)
      repeat' (first | (refine Rules.st H okX5_likely [] ?_; (conv => whnf); try (show T _ _ _ [_, _, _, _, _, _, _, _, _, _, _, _, _, _] _ _)) | refine br_t (by first | decide | assumption) ?_ | refine br_f (by first | decide | assumption) ?_ | refine br_c (fun _ => ?_) (fun _ => ?_) | refine ⟨by decide, ?_⟩ | refine ⟨by first | assumption | (unfold vp_in; decide) | ((with_reducible (refine vp_in_nI ?_ ?_)) <;> omega), ?_⟩ | fail)
      exact h1 S' hS'
  · rw [if_neg (okM_neg hno)] at h1
    skip
    repeat' (first | (refine Rules.st H okX5_likely [] ?_; (conv => whnf); try (show T _ _ _ [_, _, _, _, _, _, _, _, _, _, _, _, _, _] _ _)) | refine br_t (by first | decide | assumption) ?_ | refine br_f (by first | decide | assumption) ?_ | refine br_c (fun _ => ?_) (fun _ => ?_) | refine ⟨by decide, ?_⟩ | refine ⟨by first | assumption | (unfold vp_in; decide) | ((with_reducible (refine vp_in_nI ?_ ?_)) <;> omega), ?_⟩ | fail)
    refine X5_lowestOf H ScM.rf (k := 1) (by omega) (by omega) (by decide) (fun S' hS' => ?_)
    repeat' (first | (refine Rules.st H okX5_likely [] ?_; (conv => whnf); try (show T _ _ _ [_, _, _, _, _, _, _, _, _, _, _, _, _, _] _ _)) | refine br_t (by first | decide | assumption) ?_ | refine br_f (by first | decide | assumption) ?_ | refine br_c (fun _ => ?_) (fun _ => ?_) | refine ⟨by decide, ?_⟩ | refine ⟨by first | assumption | (unfold vp_in; decide) | ((with_reducible (refine vp_in_nI ?_ ?_)) <;> omega), ?_⟩ | fail)
    exact h1 S' hS'
end M33
