section M6
variable {C : Cst} {T : Nat → Pst → Nat → Lcs → List Value → Mem → Prop}
def bitsK (v : Int32) : Nat → Nat → Int32 → Int32
  | 0, _, a => a
  | k + 1, i, a => bitsK v k (i + 1) (a + bt v i)
set_option maxRecDepth 100000 in
theorem bits_pc : ∀ D, D < 256 → bitsK (nI D) 31 0 0 = pcI (nI D) := by decide +kernel
set_option maxRecDepth 100000 in
theorem or_step : ∀ D, D < 256 → ∀ i, i < 8 → nI (D % 2 ^ i) ||| (bt (nI D) i <<< (nI i &&& 31)) = nI (D % 2 ^ (i + 1)) := by decide +kernel
set_option maxRecDepth 100000 in
theorem X5_bits_l (H : Rules C T) {v : Int32} {S : Mem} {Q : Pst} : ∀ (k i : Nat) (a : Int32), i + k = 31 → Q (some (.int (bitsK v k i a))) S → T mX5_bits Q 4 [some (.int v), some (.int a), some (.int (nI i))] [] S := by
  intro k
  induction k with
  | zero =>
    intro i a hi h1
    have hge : 31 ≤ nI i := nI_le (a := 31) (by omega) (by omega)
    skip
    repeat' (first | (refine Rules.st H okX5_bits [4] ?_; conv => whnf) | refine br_t (by first | decide | assumption) ?_ | refine br_f (by first | decide | assumption) ?_ | refine br_c (fun _ => ?_) (fun _ => ?_) | refine ⟨by decide, ?_⟩ | refine ⟨by first | assumption | (unfold vp_in; decide) | ((with_reducible (refine vp_in_nI ?_ ?_)) <;> omega), ?_⟩ | fail)
    exact h1
  | succ k ih =>
    intro i a hi h1
    have hge : ¬ 31 ≤ nI i := nI_ge (b := 31) (by omega) (by omega)
    skip
    repeat' (first | (refine Rules.st H okX5_bits [4] ?_; conv => whnf) | refine br_t (by first | decide | assumption) ?_ | refine br_f (by first | decide | assumption) ?_ | refine br_c (fun _ => ?_) (fun _ => ?_) | refine ⟨by decide, ?_⟩ | refine ⟨by first | assumption | (unfold vp_in; decide) | ((with_reducible (refine vp_in_nI ?_ ?_)) <;> omega), ?_⟩ | fail)
    refine Halt.mk ?_
    show T mX5_bits Q 4 [some (.int v), some (.int (a + bt v i)), some (.int (nI i + 1))] [] _
    rw [nI_1]
    exact ih (i + 1) _ (by omega) h1
set_option maxRecDepth 100000 in
theorem X5_bits (H : Rules C T) {n : Nat} (hn8 : n ≤ 8) {v : Int32} (hv : isS n v) {S : Mem} {Q : Pst} (h1 : Q (some (.int (pcI v))) S) : C mX5_bits [.int v] S Q := by
  obtain ⟨D, hD, rfl⟩ := hv.lt hn8
  rw [← bits_pc D hD] at h1
  refine Rules.go H (by decide) (Nat.le_of_ble_eq_true rfl) ?_
  repeat' (first | (refine Rules.st H okX5_bits [4] ?_; conv => whnf) | refine br_t (by first | decide | assumption) ?_ | refine br_f (by first | decide | assumption) ?_ | refine br_c (fun _ => ?_) (fun _ => ?_) | refine ⟨by decide, ?_⟩ | refine ⟨by first | assumption | (unfold vp_in; decide) | ((with_reducible (refine vp_in_nI ?_ ?_)) <;> omega), ?_⟩ | fail)
  exact Halt.mk (X5_bits_l H 31 0 0 rfl h1)
set_option maxRecDepth 100000 in
theorem X5_setOf_l (H : Rules C T) {f n D : Nat} (hf : f = 1 ∨ f = 2) (hn8 : n ≤ 8) (hD : D < 256) {S K : Mem} {d : Int32} (R : RepM S K d) (hn : K 0 0 = nI n) (hK : K 0 f = nI D) {Q : Pst} : ∀ (k i : Nat), i + k = n → Q (some (.int (nI (D % 2 ^ n)))) S → T mX5_setOf Q 4 [some (.ref 25), some (.ref (28 + f)), some (.int (nI (D % 2 ^ i))), some (.int (nI i))] [] S := by
  intro k
  induction k with
  | zero =>
    intro i hi h1
    have hge : S 25 8 ≤ nI i := by rw [R.rm, hn]; exact nI_le (by omega) (by omega)
    rw [show i = n by omega] at hge ⊢
    rcases hf with rfl | rfl <;>
    · skip
      repeat' (first | (refine Rules.st H okX5_setOf [4] ?_; conv => whnf) | refine br_t (by first | decide | assumption) ?_ | refine br_f (by first | decide | assumption) ?_ | refine br_c (fun _ => ?_) (fun _ => ?_) | refine ⟨by decide, ?_⟩ | refine ⟨by first | assumption | (unfold vp_in; decide) | ((with_reducible (refine vp_in_nI ?_ ?_)) <;> omega), ?_⟩ | fail)
      exact h1
  | succ k ih =>
    intro i hi h1
    have hge : ¬ S 25 8 ≤ nI i := by rw [R.rm, hn]; exact nI_ge (by omega) (by omega)
    have key := ih (i + 1) (by omega) h1
    have ex : S (28 + f) (nI i).toNatClampNeg = bt (nI D) i := by
      rw [nIc (by omega), ← hK]
      rcases hf with rfl | rfl
      · exact R.de (by omega)
      · exact R.cd (by omega)
    rw [← or_step D hD i (by omega), ← ex, ← nI_1] at key
    rcases hf with rfl | rfl <;>
    · skip
      repeat' (first | (refine Rules.st H okX5_setOf [4] ?_; conv => whnf) | refine br_t (by first | decide | assumption) ?_ | refine br_f (by first | decide | assumption) ?_ | refine br_c (fun _ => ?_) (fun _ => ?_) | refine ⟨by decide, ?_⟩ | refine ⟨by first | assumption | (unfold vp_in; decide) | ((with_reducible (refine vp_in_nI ?_ ?_)) <;> omega), ?_⟩ | fail)
      exact Halt.mk key
set_option maxRecDepth 100000 in
theorem X5_setOf (H : Rules C T) {f n : Nat} (hf : f = 1 ∨ f = 2) {S K : Mem} {d : Int32} (R : RepM S K d) (g : Gd K n) {Q : Pst} (h1 : Q (some (.int (K 0 f))) S) : C mX5_setOf [.ref 25, .ref (28 + f)] S Q := by
  obtain ⟨g1, g2, g3, g4, g5, g6⟩ := g
  have hs : isS n (K 0 f) := by rcases hf with rfl | rfl <;> assumption
  obtain ⟨D, hD, e⟩ := hs
  have key := X5_setOf_l H hf g2 (Nat.lt_of_lt_of_le hD (pow8 g2)) R g1 e (Q := Q) n 0 (by omega) (by rw [Nat.mod_eq_of_lt hD, ← e]; exact h1)
  rw [show D % 2 ^ 0 = 0 from Nat.mod_one D] at key
  refine Rules.go H (by decide) (Nat.le_of_ble_eq_true rfl) ?_
  repeat' (first | (refine Rules.st H okX5_setOf [4] ?_; conv => whnf) | refine br_t (by first | decide | assumption) ?_ | refine br_f (by first | decide | assumption) ?_ | refine br_c (fun _ => ?_) (fun _ => ?_) | refine ⟨by decide, ?_⟩ | refine ⟨by first | assumption | (unfold vp_in; decide) | ((with_reducible (refine vp_in_nI ?_ ?_)) <;> omega), ?_⟩ | fail)
  exact Halt.mk key
set_option maxRecDepth 100000 in
theorem X5_manyDone (H : Rules C T) {n : Nat} {S K : Mem} {d : Int32} (R : RepM S K d) (g : Gd K n) {Q : Pst} (h1 : Q (some (.int (pcI (K 0 1)))) S) : C mX5_manyDone [.ref 25] S Q := by
  refine Rules.go H (by decide) (Nat.le_of_ble_eq_true rfl) ?_
  repeat' (first | (refine Rules.st H okX5_manyDone [] ?_; conv => whnf) | refine br_t (by first | decide | assumption) ?_ | refine br_f (by first | decide | assumption) ?_ | refine br_c (fun _ => ?_) (fun _ => ?_) | refine ⟨by decide, ?_⟩ | refine ⟨by first | assumption | (unfold vp_in; decide) | ((with_reducible (refine vp_in_nI ?_ ?_)) <;> omega), ?_⟩ | fail)
  refine X5_setOf H (f := 1) (Or.inl rfl) R g ?_
  repeat' (first | (refine Rules.st H okX5_manyDone [] ?_; conv => whnf) | refine br_t (by first | decide | assumption) ?_ | refine br_f (by first | decide | assumption) ?_ | refine br_c (fun _ => ?_) (fun _ => ?_) | refine ⟨by decide, ?_⟩ | refine ⟨by first | assumption | (unfold vp_in; decide) | ((with_reducible (refine vp_in_nI ?_ ?_)) <;> omega), ?_⟩ | fail)
  refine X5_bits H g.2.1 g.2.2.1 ?_
  repeat' (first | (refine Rules.st H okX5_manyDone [] ?_; conv => whnf) | refine br_t (by first | decide | assumption) ?_ | refine br_f (by first | decide | assumption) ?_ | refine br_c (fun _ => ?_) (fun _ => ?_) | refine ⟨by decide, ?_⟩ | refine ⟨by first | assumption | (unfold vp_in; decide) | ((with_reducible (refine vp_in_nI ?_ ?_)) <;> omega), ?_⟩ | fail)
  exact h1
/-- the long round, room after room -/
def lngK (m : Nat) : Nat → Nat → Mem → Mem
  | 0, _, K => K
  | k + 1, i, K => lngK m k (i + 1) (visitK K m i).2
set_option maxRecDepth 100000 in
theorem bt_all : ∀ n, n < 9 → ∀ i, i < n → bt ((1 <<< (nI n &&& 31)) - 1) i = 1 := by decide +kernel
set_option maxRecDepth 100000 in
theorem rnd_lng (m n : Nat) (hn : n ≤ 8) : ∀ (k i : Nat) (K : Mem), i + k = n → roundK m ((1 <<< (nI n &&& 31)) - 1) k i K = lngK m k i K
  | 0, _, _, _ => rfl
  | k + 1, i, K, h => by
    unfold roundK lngK
    rw [if_neg (by rw [bt_all n (by omega) i (by omega)]; decide)]
    exact rnd_lng m n hn k (i + 1) _ (by omega)
set_option maxRecDepth 100000 in
theorem Gd.lng {n m : Nat} : ∀ {k i : Nat} {K : Mem}, i + k = n → Gd K n → Gd (lngK m k i K) n
  | 0, _, _, _, g => g
  | k + 1, i, K, h, g => (g.visit (m := m) (show i < n by omega)).lng (k := k) (i := i + 1) (by omega)
set_option maxRecDepth 100000 in
theorem longK_lng {m n : Nat} (hn : n ≤ 8) (K : Mem) : longK m n K = lngK m n 0 K := rnd_lng m n hn n 0 K (by omega)
set_option maxRecDepth 100000 in
theorem X5_longRound_l (H : Rules C T) {n m : Nat} {d : Int32} (hm : m < 2) {Q : Pst} : ∀ (k i : Nat) (S K : Mem), i + k = n → RepM S K d → Gd K n → (∀ S', RepM S' (lngK m k i K) d → FrM S S' → Q none S') → T mX5_longRound Q 2 [some (.ref 25), some (.int (nI m)), some (.int (nI i))] [] S := by
  intro k
  induction k with
  | zero =>
    intro i S K hi R g h1
    have h8 := g.2.1
    have hge : S 25 8 ≤ nI i := by rw [R.rm, g.1]; exact nI_le (by omega) (by omega)
    skip
    repeat' (first | (refine Rules.st H okX5_longRound [2] ?_; conv => whnf) | refine br_t (by first | decide | assumption) ?_ | refine br_f (by first | decide | assumption) ?_ | refine br_c (fun _ => ?_) (fun _ => ?_) | refine ⟨by decide, ?_⟩ | refine ⟨by first | assumption | (unfold vp_in; decide) | ((with_reducible (refine vp_in_nI ?_ ?_)) <;> omega), ?_⟩ | fail)
    exact h1 S R FrM.rf
  | succ k ih =>
    intro i S K hi R g h1
    have h8 := g.2.1
    have hge : ¬ S 25 8 ≤ nI i := by rw [R.rm, g.1]; exact nI_ge (by omega) (by omega)
    skip
    repeat' (first | (refine Rules.st H okX5_longRound [2] ?_; conv => whnf) | refine br_t (by first | decide | assumption) ?_ | refine br_f (by first | decide | assumption) ?_ | refine br_c (fun _ => ?_) (fun _ => ?_) | refine ⟨by decide, ?_⟩ | refine ⟨by first | assumption | (unfold vp_in; decide) | ((with_reducible (refine vp_in_nI ?_ ?_)) <;> omega), ?_⟩ | fail)
    refine X5_visit H R g hm (by omega) (fun S1 R1 F1 => ?_)
    repeat' (first | (refine Rules.st H okX5_longRound [2] ?_; conv => whnf) | refine br_t (by first | decide | assumption) ?_ | refine br_f (by first | decide | assumption) ?_ | refine br_c (fun _ => ?_) (fun _ => ?_) | refine ⟨by decide, ?_⟩ | refine ⟨by first | assumption | (unfold vp_in; decide) | ((with_reducible (refine vp_in_nI ?_ ?_)) <;> omega), ?_⟩ | fail)
    refine Halt.mk ?_
    show T mX5_longRound Q 2 [some (.ref 25), some (.int (nI m)), some (.int (nI i + 1))] [] _
    rw [nI_1]
    exact ih (i + 1) S1 _ (by omega) R1 (g.visit (by omega)) (fun S' R' F' => h1 S' R' (F1.tr F'))
set_option maxRecDepth 100000 in
theorem X5_longRound (H : Rules C T) {n m : Nat} {d : Int32} (hm : m < 2) {S K : Mem} (R : RepM S K d) (g : Gd K n) {Q : Pst} (h1 : ∀ S', RepM S' (longK m n K) d → FrM S S' → Q none S') : C mX5_longRound [.ref 25, .int (nI m)] S Q := by
  rw [longK_lng g.2.1] at h1
  refine Rules.go H (by decide) (Nat.le_of_ble_eq_true rfl) ?_
  repeat' (first | (refine Rules.st H okX5_longRound [2] ?_; conv => whnf) | refine br_t (by first | decide | assumption) ?_ | refine br_f (by first | decide | assumption) ?_ | refine br_c (fun _ => ?_) (fun _ => ?_) | refine ⟨by decide, ?_⟩ | refine ⟨by first | assumption | (unfold vp_in; decide) | ((with_reducible (refine vp_in_nI ?_ ?_)) <;> omega), ?_⟩ | fail)
  exact Halt.mk (X5_longRound_l H hm n 0 S K (by omega) R g h1)
end M6
