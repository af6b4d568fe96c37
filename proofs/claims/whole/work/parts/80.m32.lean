section M32
variable {C : Cst} {T : Nat → Pst → Nat → Lcs → List Value → Mem → Prop}
set_option maxRecDepth 100000 in
theorem add64 {x y : Int64} (h1 : -1000000000000000 ≤ x.toInt + y.toInt) (h2 : x.toInt + y.toInt ≤ 1000000000000000) : (x + y).toInt = x.toInt + y.toInt := by
  rw [Int64.toInt_add]
  exact Int.bmod_eq_of_le (by omega) (by omega)
def cntL (s : Int32) : Nat → Nat → Int64 → Int64
  | 0, _, a => a
  | k + 1, i, a => cntL s k (i + 1) (if bt s i = 0 then a + 1 else a)
set_option maxRecDepth 100000 in
theorem cnt_pop : ∀ n, n < 9 → ∀ D, D < 2 ^ n → cntL (nI D) n 0 0 = (nI (n - popN D)).toInt64 := by decide +kernel
set_option maxRecDepth 100000 in
theorem mean_cnt (K : Mem) : ∀ (k i : Nat) (p : Int64 × Int64), (meanW K k i p).2 = cntL (K 0 1) k i p.2
  | 0, _, _ => rfl
  | k + 1, i, p => by
    unfold meanW cntL
    rw [mean_cnt K k (i + 1)]
    split <;> rfl
set_option maxRecDepth 100000 in
theorem mean_t {c : Int} {K : Mem} (B : BK c K) : ∀ (k i : Nat) (p : Int64 × Int64) (b : Int), i + k ≤ 8 → 0 ≤ p.1.toInt → p.1.toInt ≤ b → b + 16 * k ≤ 1000 → 0 ≤ (meanW K k i p).1.toInt ∧ (meanW K k i p).1.toInt ≤ b + 16 * k
  | 0, _, _, _, _, h0, h1, _ => by unfold meanW; exact ⟨h0, by omega⟩
  | k + 1, i, p, b, hi, h0, h1, hb => by
    unfold meanW
    have w := (wk_t (k := K 1 i) (B.1 i (by omega))).1
    unfold isT at w
    have e : (p.1 + (workK K i).toInt64).toInt = p.1.toInt + (workI (K 1 i) (K 2 i)).toInt := by
      rw [add64, Int32.toInt_toInt64]
      · rfl
      · rw [Int32.toInt_toInt64]; unfold workK; omega
      · rw [Int32.toInt_toInt64]; unfold workK; omega
    split
    · have := mean_t B k (i + 1) (p.1 + (workK K i).toInt64, p.2 + 1) (b + 16) (by omega) (by dsimp only; rw [e]; omega) (by dsimp only; rw [e]; omega) (by omega)
      exact ⟨this.1, by have := this.2; omega⟩
    · have := mean_t B k (i + 1) p b (by omega) h0 h1 (by omega)
      exact ⟨this.1, by have := this.2; omega⟩
set_option maxRecDepth 100000 in
theorem X5_mean_l (H : Rules C T) {S K : Mem} {d : Int32} {n : Nat} (R : RepM S K d) (g : Gd K n) {w l : Int32} {Q : Pst} : ∀ (k i : Nat) (p : Int64 × Int64), i + k = n → T mX5_mean Q 70 [some (.ref 25), some (.int w), some (.int l), some (.long (meanW K k i p).1), none, some (.int (nI n))] [] S → T mX5_mean Q 31 [some (.ref 25), some (.int w), some (.int l), some (.long p.1), none, some (.int (nI i))] [] S := by
  have h8 := g.2.1
  intro k
  induction k with
  | zero =>
    intro i p hi h1
    have hge : S 25 8 ≤ nI i := by rw [R.rm, g.1]; exact nI_le (by omega) (by omega)
    rw [show n = i by omega] at h1
    skip
    repeat' (first | (refine Rules.st H okX5_mean [31, 70] ?_; (conv => whnf); try (show T _ _ _ [_, _, _, _, _, _] _ _)) | refine br_t (by first | decide | assumption) ?_ | refine br_f (by first | decide | assumption) ?_ | refine br_c (fun _ => ?_) (fun _ => ?_) | refine ⟨by decide, ?_⟩ | refine ⟨by first | assumption | (unfold vp_in; decide) | ((with_reducible (refine vp_in_nI ?_ ?_)) <;> omega), ?_⟩ | fail)
    exact Halt.mk h1
  | succ k ih =>
    intro i p hi h1
    have hge : ¬ S 25 8 ≤ nI i := by rw [R.rm, g.1]; exact nI_ge (by omega) (by omega)
    have e29 : S 29 (nI i).toNatClampNeg = bt (K 0 1) i := by rw [nIc (by omega)]; exact R.de (by omega)
    unfold meanW at h1
    by_cases q : bt (K 0 1) i = 0
    · have q2 : S 29 (nI i).toNatClampNeg = 0 := e29.trans q
      rw [if_pos q] at h1
      skip
      repeat' (first | (refine Rules.st H okX5_mean [31, 70] ?_; (conv => whnf); try (show T _ _ _ [_, _, _, _, _, _] _ _)) | refine br_t (by first | decide | assumption) ?_ | refine br_f (by first | decide | assumption) ?_ | refine br_c (fun _ => ?_) (fun _ => ?_) | refine ⟨by decide, ?_⟩ | refine ⟨by first | assumption | (unfold vp_in; decide) | ((with_reducible (refine vp_in_nI ?_ ?_)) <;> omega), ?_⟩ | fail)
      refine X5_work H R (by omega) ?_
      repeat' (first | (refine Rules.st H okX5_mean [31, 70] ?_; (conv => whnf); try (show T _ _ _ [_, _, _, _, _, _] _ _)) | refine br_t (by first | decide | assumption) ?_ | refine br_f (by first | decide | assumption) ?_ | refine br_c (fun _ => ?_) (fun _ => ?_) | refine ⟨by decide, ?_⟩ | refine ⟨by first | assumption | (unfold vp_in; decide) | ((with_reducible (refine vp_in_nI ?_ ?_)) <;> omega), ?_⟩ | fail)
      refine Halt.mk ?_
      rw [nI_1]
      exact ih (i + 1) _ (by omega) h1
    · have q2 : ¬ S 29 (nI i).toNatClampNeg = 0 := fun z => q (e29.symm.trans z)
      rw [if_neg q] at h1
      skip
      repeat' (first | (refine Rules.st H okX5_mean [31, 70] ?_; (conv => whnf); try (show T _ _ _ [_, _, _, _, _, _] _ _)) | refine br_t (by first | decide | assumption) ?_ | refine br_f (by first | decide | assumption) ?_ | refine br_c (fun _ => ?_) (fun _ => ?_) | refine ⟨by decide, ?_⟩ | refine ⟨by first | assumption | (unfold vp_in; decide) | ((with_reducible (refine vp_in_nI ?_ ?_)) <;> omega), ?_⟩ | fail)
      refine Halt.mk ?_
      rw [nI_1, show (p.1 + Int64.ofNat 0) = p.1 from Int64.add_zero _]
      exact ih (i + 1) _ (by omega) h1
set_option maxRecDepth 100000 in
theorem X5_mean (H : Rules C T) {S K : Mem} {n : Nat} (X : XM S K n) {b : Int} (B : BK b K) {w : Int32} {Q : Pst} (h1 : AnsML S (F_mean K n w) Q) : C mX5_mean [.ref 25, .int w] S Q := by
  obtain ⟨⟨d, R⟩, g, hz⟩ := X
  have h8 := g.2.1
  have e8 : S 25 8 = nI n := R.rm.trans g.1
  unfold F_mean at h1
  refine Rules.go H (by decide) (Nat.le_of_ble_eq_true rfl) ?_
  repeat' (first | (refine Rules.st H okX5_mean [31] ?_; (conv => whnf); try (show T _ _ _ [_, _, _, _, _, _] _ _)) | refine br_t (by first | decide | assumption) ?_ | refine br_f (by first | decide | assumption) ?_ | refine br_c (fun _ => ?_) (fun _ => ?_) | refine ⟨by decide, ?_⟩ | refine ⟨by first | assumption | (unfold vp_in; decide) | ((with_reducible (refine vp_in_nI ?_ ?_)) <;> omega), ?_⟩ | fail)
  refine X5_isIn H (fun q1 q2 => ?_) (fun q => ?_)
  · rw [if_neg (w2y q1 q2)] at h1
    have h1 := h1 S ScM.rf
    change Q (some (.long (partL (meanW K n 0 (0, 0)).1 (meanW K n 0 (0, 0)).2 w))) S at h1
    obtain ⟨D, hD, eD⟩ := g.2.2.1
    obtain ⟨t1, t2⟩ := mean_t B n 0 (0, 0) 0 (by omega) (by decide) (by decide) (by omega)
    rw [mean_cnt] at h1
    change Q (some (.long (partL (meanW K n 0 (0, 0)).1 (cntL (K 0 1) n 0 0) w))) S at h1
    rw [eD, cnt_pop n (by omega) D hD] at h1
    have pp := (pop_t n (by omega) D hD).2
    repeat' (first | (refine Rules.st H okX5_mean [31] ?_; (conv => whnf); try (show T _ _ _ [_, _, _, _, _, _] _ _)) | refine br_t (by first | decide | assumption) ?_ | refine br_f (by first | decide | assumption) ?_ | refine br_c (fun _ => ?_) (fun _ => ?_) | refine ⟨by decide, ?_⟩ | refine ⟨by first | assumption | (unfold vp_in; decide) | ((with_reducible (refine vp_in_nI ?_ ?_)) <;> omega), ?_⟩ | fail)
    refine X5_manyDone H R g ?_
    repeat' (first | (refine Rules.st H okX5_mean [31] ?_; (conv => whnf); try (show T _ _ _ [_, _, _, _, _, _] _ _)) | refine br_t (by first | decide | assumption) ?_ | refine br_f (by first | decide | assumption) ?_ | refine br_c (fun _ => ?_) (fun _ => ?_) | refine ⟨by decide, ?_⟩ | refine ⟨by first | assumption | (unfold vp_in; decide) | ((with_reducible (refine vp_in_nI ?_ ?_)) <;> omega), ?_⟩ | fail)
    rw [eD, e8, pop_sub n h8 D hD]
    refine Halt.mk ?_
    refine X5_mean_l H R g n 0 (0, 0) (by omega) ?_
    generalize (meanW K n 0 (0, 0)).1 = A at h1 t1 t2 ⊢
    by_cases hl : n - popN D = 0
    · rw [hl] at h1 ⊢
      have hl0 : nI 0 = 0 := rfl
      have e : partL A (nI 0).toInt64 w = w.toInt64 := by
        unfold partL
        rw [if_pos (Or.inr (by decide))]
      rw [e] at h1
      skip
      repeat' (first | (refine Rules.st H okX5_mean [] ?_; (conv => whnf); try (show T _ _ _ [_, _, _, _, _, _] _ _)) | refine br_t (by first | decide | assumption) ?_ | refine br_f (by first | decide | assumption) ?_ | refine br_c (fun _ => ?_) (fun _ => ?_) | refine ⟨by decide, ?_⟩ | refine ⟨by first | assumption | (unfold vp_in; decide) | ((with_reducible (refine vp_in_nI ?_ ?_)) <;> omega), ?_⟩ | fail)
      exact h1
    · have hl0 : ¬ nI (n - popN D) = 0 := fun z => hl ((nI_eq (a := n - popN D) (b := 0) (by omega) (by omega)).mp z)
      have et : (nI (n - popN D)).toInt64.toInt = ((n - popN D : Nat) : Int) := by rw [Int32.toInt_toInt64, nIt (by omega)]
      skip
      repeat' (first | (refine Rules.st H okX5_mean [] ?_; (conv => whnf); try (show T _ _ _ [_, _, _, _, _, _] _ _)) | refine br_t (by first | decide | assumption) ?_ | refine br_f (by first | decide | assumption) ?_ | refine br_c (fun _ => ?_) (fun _ => ?_) | refine ⟨by decide, ?_⟩ | refine ⟨by first | assumption | (unfold vp_in; decide) | ((with_reducible (refine vp_in_nI ?_ ?_)) <;> omega), ?_⟩ | fail)
      refine X5_partOf H (fin_of 40 100 _ _ (by omega) t1 (by rw [et]; omega) (by rw [et]; omega)) (ne0 (by rw [et]; omega)) (w2' q1 q2) ?_
      repeat' (first | (refine Rules.st H okX5_mean [] ?_; (conv => whnf); try (show T _ _ _ [_, _, _, _, _, _] _ _)) | refine br_t (by first | decide | assumption) ?_ | refine br_f (by first | decide | assumption) ?_ | refine br_c (fun _ => ?_) (fun _ => ?_) | refine ⟨by decide, ?_⟩ | refine ⟨by first | assumption | (unfold vp_in; decide) | ((with_reducible (refine vp_in_nI ?_ ?_)) <;> omega), ?_⟩ | fail)
      exact h1
  · rw [if_pos (w2n q)] at h1
    repeat' (first | (refine Rules.st H okX5_mean [] ?_; (conv => whnf); try (show T _ _ _ [_, _, _, _, _, _] _ _)) | refine br_t (by first | decide | assumption) ?_ | refine br_f (by first | decide | assumption) ?_ | refine br_c (fun _ => ?_) (fun _ => ?_) | refine ⟨by decide, ?_⟩ | refine ⟨by first | assumption | (unfold vp_in; decide) | ((with_reducible (refine vp_in_nI ?_ ?_)) <;> omega), ?_⟩ | fail)
    refine X5_lowestOf H ScM.rf (k := 2) (by omega) (by omega) (by decide) (fun S' hS' => ?_)
    repeat' (first | (refine Rules.st H okX5_mean [] ?_; (conv => whnf); try (show T _ _ _ [_, _, _, _, _, _] _ _)) | refine br_t (by first | decide | assumption) ?_ | refine br_f (by first | decide | assumption) ?_ | refine br_c (fun _ => ?_) (fun _ => ?_) | refine ⟨by decide, ?_⟩ | refine ⟨by first | assumption | (unfold vp_in; decide) | ((with_reducible (refine vp_in_nI ?_ ?_)) <;> omega), ?_⟩ | fail)
    exact h1 S' hS'
end M32
