section M34
variable {C : Cst} {T : Nat → Pst → Nat → Lcs → List Value → Mem → Prop}
set_option maxRecDepth 100000 in
theorem X5_draw (H : Rules C T) {S : Mem} {Q : Pst} (h1 : Q (some (.int (drawI (seedI (S 25 35))))) (up S 25 35 (seedI (S 25 35)))) : C mX5_draw [.ref 25, .int 10] S Q := by
  have e : up S 25 35 (seedI (S 25 35)) 25 35 = seedI (S 25 35) := up_at
  have h1 : Q (some (.int (drawI (up S 25 35 (seedI (S 25 35)) 25 35)))) (up S 25 35 (seedI (S 25 35))) := by rw [e]; exact h1
  unfold drawI at h1
  refine Rules.go H (by decide) (Nat.le_of_ble_eq_true rfl) ?_
  repeat' (first | (refine Rules.st H okX5_draw [] ?_; (conv => whnf); try (show T _ _ _ [_, _] _ _)) | refine br_t (by first | decide | assumption) ?_ | refine br_f (by first | decide | assumption) ?_ | refine br_c (fun _ => ?_) (fun _ => ?_) | refine ⟨by decide, ?_⟩ | refine ⟨by first | assumption | (unfold vp_in; decide) | ((with_reducible (refine vp_in_nI ?_ ?_)) <;> omega), ?_⟩ | fail)
  exact h1
set_option maxRecDepth 100000 in
theorem drawK_s : ∀ (k i : Nat) (z : Int32) (K : Mem), (drawK k i z K).2 0 3 = K 0 3
  | 0, _, _, _ => rfl
  | k + 1, i, z, K => by
    unfold drawK
    rw [drawK_s, up_k (by omega)]
set_option maxRecDepth 100000 in
theorem Gd.draw {n : Nat} : ∀ {k i : Nat} {z : Int32} {K : Mem}, Gd K n → Gd (drawK k i z K).2 n
  | 0, _, _, _, g => g
  | k + 1, i, z, K, g => by
    unfold drawK
    exact Gd.draw (g.u (by omega))
set_option maxRecDepth 100000 in
theorem X5_lots_d (H : Rules C T) {n : Nat} (h8 : n ≤ 8) {d a1 a2 a3 a5 a6 a7 : Int32} {Q : Pst} : ∀ (k i : Nat) (K' S : Mem), i + k = n → K' 0 0 = nI n → RepM S K' d → (∀ S', RepM S' (drawK k i (S 25 35) K').2 d → S' 25 35 = (drawK k i (S 25 35) K').1 → ScMY 0 S S' → (∀ j, S' 38 j = S 38 j) → T mX5_lots Q 99 [some (.ref 25), some (.int a1), some (.int a2), some (.int a3), some (.int 0), some (.int a5), some (.int a6), some (.int a7), some (.int (nI n))] [] S') → T mX5_lots Q 71 [some (.ref 25), some (.int a1), some (.int a2), some (.int a3), some (.int 0), some (.int a5), some (.int a6), some (.int a7), some (.int (nI i))] [] S := by
  intro k
  induction k with
  | zero =>
    intro i K' S hi hn R h1
    have hge : S 25 8 ≤ nI i := by rw [R.rm, hn]; exact nI_le (by omega) (by omega)
    have h1 := h1 S R rfl (ScMY.fr FrM.rf) (fun _ => rfl)
    rw [show n = i by omega] at h1
    skip
    repeat' (first | (refine Rules.st H okX5_lots [71, 99] ?_; (conv => whnf); try (show T _ _ _ [_, _, _, _, _, _, _, _, _] _ _)) | refine br_t (by first | decide | assumption) ?_ | refine br_f (by first | decide | assumption) ?_ | refine br_c (fun _ => ?_) (fun _ => ?_) | refine ⟨by decide, ?_⟩ | refine ⟨by first | assumption | (unfold vp_in; decide) | ((with_reducible (refine vp_in_nI ?_ ?_)) <;> omega), ?_⟩ | fail)
    exact Halt.mk h1
  | succ k ih =>
    intro i K' S hi hn R h1
    have hge : ¬ S 25 8 ≤ nI i := by rw [R.rm, hn]; exact nI_ge (by omega) (by omega)
    have ci : (nI i).toNatClampNeg = i := nIc (by omega)
    unfold drawK at h1
    skip
    repeat' (first | (refine Rules.st H okX5_lots [71, 99] ?_; (conv => whnf); try (show T _ _ _ [_, _, _, _, _, _, _, _, _] _ _)) | refine br_t (by first | decide | assumption) ?_ | refine br_f (by first | decide | assumption) ?_ | refine br_c (fun _ => ?_) (fun _ => ?_) | refine ⟨by decide, ?_⟩ | refine ⟨by first | assumption | (unfold vp_in; decide) | ((with_reducible (refine vp_in_nI ?_ ?_)) <;> omega), ?_⟩ | fail)
    refine X5_draw H ?_
    repeat' (first | (refine Rules.st H okX5_lots [71, 99] ?_; (conv => whnf); try (show T _ _ _ [_, _, _, _, _, _, _, _, _] _ _)) | refine br_t (by first | decide | assumption) ?_ | refine br_f (by first | decide | assumption) ?_ | refine br_c (fun _ => ?_) (fun _ => ?_) | refine ⟨by decide, ?_⟩ | refine ⟨by first | assumption | (unfold vp_in; decide) | ((with_reducible (refine vp_in_nI ?_ ?_)) <;> omega), ?_⟩ | fail)
    refine Halt.mk ?_
    rw [nI_1, ci]
    have R1 : RepM (up S 25 35 (seedI (S 25 35))) K' d := R.o (by unfold inM; omega)
    have R2 : RepM (up (up S 25 35 (seedI (S 25 35))) 28 i (drawI (seedI (S 25 35)))) (up K' 2 i (drawI (seedI (S 25 35)))) d := R1.put1 (o := 2) (Or.inr rfl)
    have F2 : ScMY 0 S (up (up S 25 35 (seedI (S 25 35))) 28 i (drawI (seedI (S 25 35)))) := (ScMY.put (by unfold scrM; omega)).tr (ScMY.fr (FrM.put (by unfold inM; omega)))
    have e38 : ∀ j, up (up S 25 35 (seedI (S 25 35))) 28 i (drawI (seedI (S 25 35))) 38 j = S 38 j := fun j => by rw [up_k (by omega), up_k (by omega)]
    have e35 : up (up S 25 35 (seedI (S 25 35))) 28 i (drawI (seedI (S 25 35))) 25 35 = seedI (S 25 35) := by rw [up_k (by omega), up_at]
    generalize up (up S 25 35 (seedI (S 25 35))) 28 i (drawI (seedI (S 25 35))) = S2 at R2 F2 e38 e35 ⊢
    refine ih (i + 1) _ S2 (by omega) (by rw [up_k (by omega)]; exact hn) R2 (fun S' r' e' f' g' => ?_)
    rw [e35] at r' e'
    exact h1 S' r' e' (F2.tr f') (fun j => by rw [g', e38])
set_option maxRecDepth 100000 in
theorem X5_lots_l (H : Rules C T) {S K : Mem} {n q : Nat} (hq : q ≤ 20) (X : XM S K n) {z0 w : Int32} {Q : Pst} : ∀ (k i : Nat) (p : Lot) (S1 : Mem) (y1 y2 : Option Value), i + k = q → ScM 0 S S1 → S1 25 35 = p.1 → (∀ S', ScM 0 S S' → Q (some (.int (if w = 0 then (lotsK K n k p).2.1 else (lotsK K n k p).2.2))) S') → T mX5_lots Q 50 [some (.ref 25), some (.int (nI q)), some (.int z0), some (.int w), some (.int 0), some (.int (if w = 0 then p.2.1 else p.2.2)), some (.int (nI i)), y1, y2] [] S1 := by
  obtain ⟨⟨d, R⟩, g, hz⟩ := X
  have h8 := g.2.1
  intro k
  induction k with
  | zero =>
    intro i p S1 y1 y2 hi s1 e35 h1
    have hge : nI q ≤ nI i := nI_le (by omega) (by omega)
    skip
    repeat' (first | (refine Rules.st H okX5_lots [50] ?_; (conv => whnf); try (show T _ _ _ [_, _, _, _, _, _, _, _, _] _ _)) | refine br_t (by first | decide | assumption) ?_ | refine br_f (by first | decide | assumption) ?_ | refine br_c (fun _ => ?_) (fun _ => ?_) | refine ⟨by decide, ?_⟩ | refine ⟨by first | assumption | (unfold vp_in; decide) | ((with_reducible (refine vp_in_nI ?_ ?_)) <;> omega), ?_⟩ | fail)
    exact h1 S1 s1
  | succ k ih =>
    intro i p S1 y1 y2 hi s1 e35 h1
    have hge : ¬ nI q ≤ nI i := nI_ge (by omega) (by omega)
    obtain ⟨d1, R1⟩ := s1.rep R
    have c0 : (0 : Int32).toNatClampNeg = 0 := rfl
    unfold lotsK at h1
    skip
    repeat' (first | (refine Rules.st H okX5_lots [50, 71] ?_; (conv => whnf); try (show T _ _ _ [_, _, _, _, _, _, _, _, _] _ _)) | refine br_t (by first | decide | assumption) ?_ | refine br_f (by first | decide | assumption) ?_ | refine br_c (fun _ => ?_) (fun _ => ?_) | refine ⟨by decide, ?_⟩ | refine ⟨by first | assumption | (unfold vp_in; decide) | ((with_reducible (refine vp_in_nI ?_ ?_)) <;> omega), ?_⟩ | fail)
    refine X5_minds H (fun S2 k2 f2 => ?_)
    have R2 := R1.frP f2
    have e35b : S2 25 35 = p.1 := by rw [f2 25 35 (by omega) (by omega)]; exact e35
    repeat' (first | (refine Rules.st H okX5_lots [50, 71] ?_; (conv => whnf); try (show T _ _ _ [_, _, _, _, _, _, _, _, _] _ _)) | refine br_t (by first | decide | assumption) ?_ | refine br_f (by first | decide | assumption) ?_ | refine br_c (fun _ => ?_) (fun _ => ?_) | refine ⟨by decide, ?_⟩ | refine ⟨by first | assumption | (unfold vp_in; decide) | ((with_reducible (refine vp_in_nI ?_ ?_)) <;> omega), ?_⟩ | fail)
    rw [c0, R2.ck (m := 0) (by omega)]
    refine Halt.mk ?_
    refine X5_lots_d H h8 n 0 K S2 (by omega) g.1 R2 (fun S3 R3 e3 F3 g3 => ?_)
    rw [e35b] at R3 e3
    have G3 : Gd (drawK n 0 p.1 K).2 n := g.draw
    skip
    repeat' (first | (refine Rules.st H okX5_lots [50] ?_; (conv => whnf); try (show T _ _ _ [_, _, _, _, _, _, _, _, _] _ _)) | refine br_t (by first | decide | assumption) ?_ | refine br_f (by first | decide | assumption) ?_ | refine br_c (fun _ => ?_) (fun _ => ?_) | refine ⟨by decide, ?_⟩ | refine ⟨by first | assumption | (unfold vp_in; decide) | ((with_reducible (refine vp_in_nI ?_ ?_)) <;> omega), ?_⟩ | fail)
    refine X5_longRound H (m := 0) (by omega) R3 G3 (fun S4 R4 F4 => ?_)
    have e4 : S4 25 35 = (drawK n 0 p.1 K).1 := by rw [F4 25 35 (by unfold inM; omega)]; exact e3
    have k4 : KeptM 2 S4 S1 := fun j hj => by
      rw [F4 38 _ (by unfold inM; omega), g3]
      exact k2 j hj
    have G4 : Gd (longK 0 n (drawK n 0 p.1 K).2) n := by rw [longK_lng h8]; exact G3.lng (by omega)
    have e4s : S4 25 21 = S1 25 21 := by rw [R4.st, R1.st, longK_lng h8, lngK_s, drawK_s]
    have F4 : ScMY 0 S2 S4 := F3.tr (ScMY.fr F4)
    have nx : ∀ (v : Int32) (y : Option Value), v = (if w = 0 then p.2.1 + pcI (longK 0 n (drawK n 0 p.1 K).2 0 1) else p.2.2 + (longK 0 n (drawK n 0 p.1 K).2 5 0 - K 5 0)) → ∀ S5, ScM 0 S S5 → S5 25 35 = (drawK n 0 p.1 K).1 → T mX5_lots Q 50 [some (.ref 25), some (.int (nI q)), some (.int z0), some (.int w), some (.int 0), some (.int v), some (.int (nI i + 1)), some (.int (K 5 0)), y] [] S5 := fun v y ev S5 s5 e5 => by
      rw [nI_1, ev]
      exact ih (i + 1) ((drawK n 0 p.1 K).1, p.2.1 + pcI (longK 0 n (drawK n 0 p.1 K).2 0 1), p.2.2 + (longK 0 n (drawK n 0 p.1 K).2 5 0 - K 5 0)) S5 _ _ (by omega) s5 e5 h1
    by_cases hw : w = 0
    · repeat' (first | (refine Rules.st H okX5_lots [50] ?_; (conv => whnf); try (show T _ _ _ [_, _, _, _, _, _, _, _, _] _ _)) | refine br_t (by first | decide | assumption) ?_ | refine br_f (by first | decide | assumption) ?_ | refine br_c (fun _ => ?_) (fun _ => ?_) | refine ⟨by decide, ?_⟩ | refine ⟨by first | assumption | (unfold vp_in; decide) | ((with_reducible (refine vp_in_nI ?_ ?_)) <;> omega), ?_⟩ | fail)
      refine X5_manyDone H R4 G4 ?_
      repeat' (first | (refine Rules.st H okX5_lots [50] ?_; (conv => whnf); try (show T _ _ _ [_, _, _, _, _, _, _, _, _] _ _)) | refine br_t (by first | decide | assumption) ?_ | refine br_f (by first | decide | assumption) ?_ | refine br_c (fun _ => ?_) (fun _ => ?_) | refine ⟨by decide, ?_⟩ | refine ⟨by first | assumption | (unfold vp_in; decide) | ((with_reducible (refine vp_in_nI ?_ ?_)) <;> omega), ?_⟩ | fail)
      refine X5_forgets H k4 (fun S5 b1 b2 => ?_)
      have s5 : ScM 0 S1 S5 := back (by omega) f2 F4 e4s b1 b2
      repeat' (first | (refine Rules.st H okX5_lots [50] ?_; (conv => whnf); try (show T _ _ _ [_, _, _, _, _, _, _, _, _] _ _)) | refine br_t (by first | decide | assumption) ?_ | refine br_f (by first | decide | assumption) ?_ | refine br_c (fun _ => ?_) (fun _ => ?_) | refine ⟨by decide, ?_⟩ | refine ⟨by first | assumption | (unfold vp_in; decide) | ((with_reducible (refine vp_in_nI ?_ ?_)) <;> omega), ?_⟩ | fail)
      refine Halt.mk (nx _ _ ?_ S5 (s1.tr s5) (by rw [b2 25 35 (by unfold inP; omega) (by omega), e4]))
      rw [if_pos hw, if_pos hw]
    · repeat' (first | (refine Rules.st H okX5_lots [50] ?_; (conv => whnf); try (show T _ _ _ [_, _, _, _, _, _, _, _, _] _ _)) | refine br_t (by first | decide | assumption) ?_ | refine br_f (by first | decide | assumption) ?_ | refine br_c (fun _ => ?_) (fun _ => ?_) | refine ⟨by decide, ?_⟩ | refine ⟨by first | assumption | (unfold vp_in; decide) | ((with_reducible (refine vp_in_nI ?_ ?_)) <;> omega), ?_⟩ | fail)
      rw [c0, R4.ck (m := 0) (by omega)]
      refine X5_forgets H k4 (fun S5 b1 b2 => ?_)
      have s5 : ScM 0 S1 S5 := back (by omega) f2 F4 e4s b1 b2
      repeat' (first | (refine Rules.st H okX5_lots [50] ?_; (conv => whnf); try (show T _ _ _ [_, _, _, _, _, _, _, _, _] _ _)) | refine br_t (by first | decide | assumption) ?_ | refine br_f (by first | decide | assumption) ?_ | refine br_c (fun _ => ?_) (fun _ => ?_) | refine ⟨by decide, ?_⟩ | refine ⟨by first | assumption | (unfold vp_in; decide) | ((with_reducible (refine vp_in_nI ?_ ?_)) <;> omega), ?_⟩ | fail)
      refine Halt.mk (nx _ _ ?_ S5 (s1.tr s5) (by rw [b2 25 35 (by unfold inP; omega) (by omega), e4]))
      rw [if_neg hw, if_neg hw]
set_option maxRecDepth 100000 in
theorem X5_lots (H : Rules C T) {S K : Mem} {n : Nat} (X : XM S K n) {c z w : Int32} {Q : Pst} (h1 : AnsM S (F_lots K n c z w) Q) : C mX5_lots [.ref 25, .int c, .int z, .int w] S Q := by
  have X0 := X
  obtain ⟨⟨d, R⟩, g, hz⟩ := X
  unfold F_lots at h1
  refine Rules.go H (by decide) (Nat.le_of_ble_eq_true rfl) ?_
  repeat' (first | (refine Rules.st H okX5_lots [50] ?_; (conv => whnf); try (show T _ _ _ [_, _, _, _, _, _, _, _, _] _ _)) | refine br_t (by first | decide | assumption) ?_ | refine br_f (by first | decide | assumption) ?_ | refine br_c (fun _ => ?_) (fun _ => ?_) | refine ⟨by decide, ?_⟩ | refine ⟨by first | assumption | (unfold vp_in; decide) | ((with_reducible (refine vp_in_nI ?_ ?_)) <;> omega), ?_⟩ | fail)
  refine X5_bound H (fun q3 => ?_) (fun q3 q4 => ?_) (fun q3 q4 => ?_)
  · rw [if_pos q3] at h1
    repeat' (first | (refine Rules.st H okX5_lots [50] ?_; (conv => whnf); try (show T _ _ _ [_, _, _, _, _, _, _, _, _] _ _)) | refine br_t (by first | decide | assumption) ?_ | refine br_f (by first | decide | assumption) ?_ | refine br_c (fun _ => ?_) (fun _ => ?_) | refine ⟨by decide, ?_⟩ | refine ⟨by first | assumption | (unfold vp_in; decide) | ((with_reducible (refine vp_in_nI ?_ ?_)) <;> omega), ?_⟩ | fail)
    refine X5_no H ScM.rf (k := 4) (by omega) (by omega) (by decide) (fun S' hS' => ?_)
    repeat' (first | (refine Rules.st H okX5_lots [50] ?_; (conv => whnf); try (show T _ _ _ [_, _, _, _, _, _, _, _, _] _ _)) | refine br_t (by first | decide | assumption) ?_ | refine br_f (by first | decide | assumption) ?_ | refine br_c (fun _ => ?_) (fun _ => ?_) | refine ⟨by decide, ?_⟩ | refine ⟨by first | assumption | (unfold vp_in; decide) | ((with_reducible (refine vp_in_nI ?_ ?_)) <;> omega), ?_⟩ | fail)
    exact h1 S' hS'
  · rw [if_neg q3, if_pos q4] at h1
    repeat' (first | (refine Rules.st H okX5_lots [50] ?_; (conv => whnf); try (show T _ _ _ [_, _, _, _, _, _, _, _, _] _ _)) | refine br_t (by first | decide | assumption) ?_ | refine br_f (by first | decide | assumption) ?_ | refine br_c (fun _ => ?_) (fun _ => ?_) | refine ⟨by decide, ?_⟩ | refine ⟨by first | assumption | (unfold vp_in; decide) | ((with_reducible (refine vp_in_nI ?_ ?_)) <;> omega), ?_⟩ | fail)
    refine X5_no H ScM.rf (k := 6) (by omega) (by omega) (by decide) (fun S' hS' => ?_)
    repeat' (first | (refine Rules.st H okX5_lots [50] ?_; (conv => whnf); try (show T _ _ _ [_, _, _, _, _, _, _, _, _] _ _)) | refine br_t (by first | decide | assumption) ?_ | refine br_f (by first | decide | assumption) ?_ | refine br_c (fun _ => ?_) (fun _ => ?_) | refine ⟨by decide, ?_⟩ | refine ⟨by first | assumption | (unfold vp_in; decide) | ((with_reducible (refine vp_in_nI ?_ ?_)) <;> omega), ?_⟩ | fail)
    exact h1 S' hS'
  · rw [if_neg q3, if_neg q4] at h1
    repeat' (first | (refine Rules.st H okX5_lots [50] ?_; (conv => whnf); try (show T _ _ _ [_, _, _, _, _, _, _, _, _] _ _)) | refine br_t (by first | decide | assumption) ?_ | refine br_f (by first | decide | assumption) ?_ | refine br_c (fun _ => ?_) (fun _ => ?_) | refine ⟨by decide, ?_⟩ | refine ⟨by first | assumption | (unfold vp_in; decide) | ((with_reducible (refine vp_in_nI ?_ ?_)) <;> omega), ?_⟩ | fail)
    refine X5_isIn H (fun p1 p2 => ?_) (fun p0 => ?_)
    · rw [if_neg (w2y p1 p2)] at h1
      have t0 : ¬ c < 0 := fun z => q3 (Int32.lt_trans z (by decide))
      obtain ⟨q, hq, rfl⟩ := nI_of t0
      have q20 : q ≤ 20 := by
        rw [ltT, nIt hq] at q4
        have : (20 : Int32).toInt = 20 := by decide
        omega
      rw [show ix (nI q) = q from nIc (by omega)] at h1
      repeat' (first | (refine Rules.st H okX5_lots [50] ?_; (conv => whnf); try (show T _ _ _ [_, _, _, _, _, _, _, _, _] _ _)) | refine br_t (by first | decide | assumption) ?_ | refine br_f (by first | decide | assumption) ?_ | refine br_c (fun _ => ?_) (fun _ => ?_) | refine ⟨by decide, ?_⟩ | refine ⟨by first | assumption | (unfold vp_in; decide) | ((with_reducible (refine vp_in_nI ?_ ?_)) <;> omega), ?_⟩ | fail)
      have F0 : ScM 0 S (up S 25 35 z) := ScM.puts (by unfold scrM; omega) ScM.rf
      refine Halt.mk ?_
      have key := X5_lots_l H (S := S) (z0 := z) (w := w) q20 X0 q 0 (z, 0, 0) (up S 25 35 z) none none (by omega) F0 up_at (Q := Q) (fun S2 s2 => h1 S2 s2)
      rw [show (if w = 0 then ((z, 0, 0) : Lot).2.1 else ((z, 0, 0) : Lot).2.2) = 0 from by split <;> rfl] at key
      exact key
    · rw [if_pos (w2n p0)] at h1
      repeat' (first | (refine Rules.st H okX5_lots [50] ?_; (conv => whnf); try (show T _ _ _ [_, _, _, _, _, _, _, _, _] _ _)) | refine br_t (by first | decide | assumption) ?_ | refine br_f (by first | decide | assumption) ?_ | refine br_c (fun _ => ?_) (fun _ => ?_) | refine ⟨by decide, ?_⟩ | refine ⟨by first | assumption | (unfold vp_in; decide) | ((with_reducible (refine vp_in_nI ?_ ?_)) <;> omega), ?_⟩ | fail)
      refine X5_no H ScM.rf (k := 2) (by omega) (by omega) (by decide) (fun S' hS' => ?_)
      repeat' (first | (refine Rules.st H okX5_lots [50] ?_; (conv => whnf); try (show T _ _ _ [_, _, _, _, _, _, _, _, _] _ _)) | refine br_t (by first | decide | assumption) ?_ | refine br_f (by first | decide | assumption) ?_ | refine br_c (fun _ => ?_) (fun _ => ?_) | refine ⟨by decide, ?_⟩ | refine ⟨by first | assumption | (unfold vp_in; decide) | ((with_reducible (refine vp_in_nI ?_ ?_)) <;> omega), ?_⟩ | fail)
      exact h1 S' hS'
end M34
