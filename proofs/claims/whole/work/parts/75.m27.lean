section M27
variable {C : Cst} {T : Nat → Pst → Nat → Lcs → List Value → Mem → Prop}
set_option maxRecDepth 100000 in
theorem X5_longMinutes2 (H : Rules C T) {S K : Mem} {d : Int32} {n m : Nat} (hm : m < 2) (R : RepM S K d) (g : Gd K n) (h4 : K 0 4 = 0) {Q : Pst} (h1 : ∀ S', ScM 0 S S' → (∀ j, j < 78 → S' 38 j = S 38 j) → S' 25 32 = pcI (longK m n K 0 1) → Q (some (.int (longK m n K 5 m - K 5 m))) S') : C mX5_longMinutes [.ref 25, .int (nI m)] S Q := by
  have h8 := g.2.1
  rw [longK_lng h8] at h1
  have cm : (nI m).toNatClampNeg = m := nIc (by omega)
  have e33 : S 33 m = K 5 m := R.ck hm
  refine Rules.go H (by decide) (Nat.le_of_ble_eq_true rfl) ?_
  repeat' (first | (refine Rules.st H okX5_longMinutes [24] ?_; conv => whnf) | refine br_t (by first | decide | assumption) ?_ | refine br_f (by first | decide | assumption) ?_ | refine br_c (fun _ => ?_) (fun _ => ?_) | refine ⟨by decide, ?_⟩ | refine ⟨by first | assumption | (unfold vp_in; decide) | ((with_reducible (refine vp_in_nI ?_ ?_)) <;> omega), ?_⟩ | fail)
  rw [cm, e33]
  have R1 : RepM (up S 25 33 (-9)) K d := R.o (by unfold inM; omega)
  have R2 := R1.zero h4
  have s33 : up (up S 25 33 (-9)) 25 22 0 25 33 = -9 := by rw [up_j (by omega), up_at]
  have s38 : ∀ j, up (up S 25 33 (-9)) 25 22 0 38 j = S 38 j := fun j => by rw [up_k (by omega), up_k (by omega)]
  have put : ∀ S', ScM 0 (up (up S 25 33 (-9)) 25 22 0) S' → ScM 0 S S' := fun S' F => (F.puts (by unfold scrM; omega)).puts (by unfold scrM; omega)
  generalize up (up S 25 33 (-9)) 25 22 0 = S2 at R2 s33 s38 put ⊢
  refine X5_minds H (fun S3 k3 f3 => ?_)
  have R3 := R2.frP f3
  have s3 : S3 25 33 = -9 := by rw [f3 25 33 (by omega) (by omega)]; exact s33
  have t38 : ∀ j, j < 78 → S3 38 j = S 38 j := fun j hj => by rw [f3 38 j (by omega) (by omega), s38]
  repeat' (first | (refine Rules.st H okX5_longMinutes [24] ?_; conv => whnf) | refine br_t (by first | decide | assumption) ?_ | refine br_f (by first | decide | assumption) ?_ | refine br_c (fun _ => ?_) (fun _ => ?_) | refine ⟨by decide, ?_⟩ | refine ⟨by first | assumption | (unfold vp_in; decide) | ((with_reducible (refine vp_in_nI ?_ ?_)) <;> omega), ?_⟩ | fail)
  refine Halt.mk ?_
  refine X5_longMinutes_l H (K0 := K) (d := 0) hm n 0 S3 K none (by omega) R3 g (fun _ => rfl) (Or.inl s3) (fun S4 y4 R4 F4 e38 ef => ?_)
  skip
  repeat' (first | (refine Rules.st H okX5_longMinutes [] ?_; conv => whnf) | refine br_t (by first | decide | assumption) ?_ | refine br_f (by first | decide | assumption) ?_ | refine br_c (fun _ => ?_) (fun _ => ?_) | refine ⟨by decide, ?_⟩ | refine ⟨by first | assumption | (unfold vp_in; decide) | ((with_reducible (refine vp_in_nI ?_ ?_)) <;> omega), ?_⟩ | fail)
  rw [cm, R4.ck hm]
  have G := g.lng (m := m) (k := n) (i := 0) (by omega)
  refine X5_manyDone H R4 G ?_
  repeat' (first | (refine Rules.st H okX5_longMinutes [] ?_; conv => whnf) | refine br_t (by first | decide | assumption) ?_ | refine br_f (by first | decide | assumption) ?_ | refine br_c (fun _ => ?_) (fun _ => ?_) | refine ⟨by decide, ?_⟩ | refine ⟨by first | assumption | (unfold vp_in; decide) | ((with_reducible (refine vp_in_nI ?_ ?_)) <;> omega), ?_⟩ | fail)
  have F5 : ScMY 0 S3 (up S4 25 32 (pcI (lngK m n 0 K 0 1))) := F4.tr (ScMY.put (by unfold scrM; omega))
  have k5 : KeptM 2 (up S4 25 32 (pcI (lngK m n 0 K 0 1))) S2 := fun j hj => by
    rw [up_k (by omega), e38]
    exact k3 j hj
  have R5 := R4.o (a := 25) (j := 32) (v := pcI (lngK m n 0 K 0 1)) (by unfold inM; omega)
  have e32 : up S4 25 32 (pcI (lngK m n 0 K 0 1)) 25 32 = pcI (lngK m n 0 K 0 1) := up_at
  have u38 : ∀ j, j < 78 → up S4 25 32 (pcI (lngK m n 0 K 0 1)) 38 j = S 38 j := fun j hj => by rw [up_k (by omega), e38, t38 j hj]
  generalize up S4 25 32 _ = S5 at F5 k5 R5 e32 u38 ⊢
  refine X5_forgets H k5 (fun S6 b1 b2 => ?_)
  have s6 : ScM 0 S2 S6 := back (by omega) f3 F5 (by rw [R5.st, R2.st, lngK_s]) b1 b2
  repeat' (first | (refine Rules.st H okX5_longMinutes [] ?_; conv => whnf) | refine br_t (by first | decide | assumption) ?_ | refine br_f (by first | decide | assumption) ?_ | refine br_c (fun _ => ?_) (fun _ => ?_) | refine ⟨by decide, ?_⟩ | refine ⟨by first | assumption | (unfold vp_in; decide) | ((with_reducible (refine vp_in_nI ?_ ?_)) <;> omega), ?_⟩ | fail)
  exact h1 S6 (put S6 s6) (fun j hj => by rw [b2 38 j (by unfold inP; omega) (by omega), u38 j hj]) (by rw [b2 25 32 (by unfold inP; omega) (by omega), e32])
set_option maxRecDepth 100000 in
theorem sav_eq {E1 E2 D c : Int32} (h1 : isT 100000 E1) (h2 : isT 100000 E2) (h3 : isT 100000 c) : D - c + (E2 - D) = E2 - c ∧ (E2 - c ≤ E1 - c → E1 - c - (E2 - c) = maxI 0 (E1 - E2)) ∧ (¬ E2 - c ≤ E1 - c → 0 = maxI 0 (E1 - E2)) := by
  unfold isT at h1 h2 h3
  refine ⟨?_, fun q => ?_, fun q => ?_⟩
  · rw [Int32.sub_eq_add_neg, Int32.sub_eq_add_neg, Int32.sub_eq_add_neg, Int32.add_comm D, Int32.add_comm E2, Int32.add_assoc, ← Int32.add_assoc D, Int32.add_right_neg, Int32.zero_add, Int32.add_comm]
  · rw [leT, subT (by omega) (by omega), subT (by omega) (by omega)] at q
    have e : E1 - c - (E2 - c) = E1 - E2 := by
      rw [eqT, subT (by rw [subT (by omega) (by omega), subT (by omega) (by omega)]; omega) (by rw [subT (by omega) (by omega), subT (by omega) (by omega)]; omega), subT (by omega) (by omega), subT (by omega) (by omega), subT (by omega) (by omega)]
      omega
    rw [e]
    unfold maxI
    by_cases q2 : 0 < E1 - E2
    · rw [if_pos q2]
    · rw [if_neg q2, eqT]
      rw [ltT, subT (by omega) (by omega)] at q2
      rw [subT (by omega) (by omega)]
      have : (0 : Int32).toInt = 0 := by decide
      omega
  · rw [leT, subT (by omega) (by omega), subT (by omega) (by omega)] at q
    unfold maxI
    rw [if_neg (by
      rw [ltT, subT (by omega) (by omega)]
      have : (0 : Int32).toInt = 0 := by decide
      omega)]
set_option maxRecDepth 100000 in
theorem X5_saves (H : Rules C T) {S K : Mem} {n : Nat} (X : XM S K n) (B : BK 999 K) {m : Int32} {Q : Pst} (h1 : AnsM S (F_saves K n m) Q) : C mX5_saves [.ref 25, .int m] S Q := by
  obtain ⟨⟨d, R⟩, g, hz⟩ := X
  unfold F_saves at h1
  refine Rules.go H (by decide) (Nat.le_of_ble_eq_true rfl) ?_
  repeat' (first | (refine Rules.st H okX5_saves [] ?_; (conv => whnf); try (show T _ _ _ [_, _, _, _, _, _, _] _ _)) | refine br_t (by first | decide | assumption) ?_ | refine br_f (by first | decide | assumption) ?_ | refine br_c (fun _ => ?_) (fun _ => ?_) | refine ⟨by decide, ?_⟩ | refine ⟨by first | assumption | (unfold vp_in; decide) | ((with_reducible (refine vp_in_nI ?_ ?_)) <;> omega), ?_⟩ | fail)
  refine X5_isMaid H (fun i hi e => ?_) (fun hno => ?_)
  · subst e
    have ci : (nI i).toNatClampNeg = i := nIc (by omega)
    rw [if_pos (okM_nI hi), show ix (nI i) = i from ci] at h1
    repeat' (first | (refine Rules.st H okX5_saves [] ?_; (conv => whnf); try (show T _ _ _ [_, _, _, _, _, _, _] _ _)) | refine br_t (by first | decide | assumption) ?_ | refine br_f (by first | decide | assumption) ?_ | refine br_c (fun _ => ?_) (fun _ => ?_) | refine ⟨by decide, ?_⟩ | refine ⟨by first | assumption | (unfold vp_in; decide) | ((with_reducible (refine vp_in_nI ?_ ?_)) <;> omega), ?_⟩ | fail)
    refine X5_longMinutes H hi R g hz.2 (fun S1 s1 _ e32 _ => ?_)
    obtain ⟨d1, R1⟩ := s1.rep R
    repeat' (first | (refine Rules.st H okX5_saves [] ?_; (conv => whnf); try (show T _ _ _ [_, _, _, _, _, _, _] _ _)) | refine br_t (by first | decide | assumption) ?_ | refine br_f (by first | decide | assumption) ?_ | refine br_c (fun _ => ?_) (fun _ => ?_) | refine ⟨by decide, ?_⟩ | refine ⟨by first | assumption | (unfold vp_in; decide) | ((with_reducible (refine vp_in_nI ?_ ?_)) <;> omega), ?_⟩ | fail)
    rw [e32]
    refine X5_passesAll_K H (w := 1) (by omega) (fun S2 k2 f2 => ?_)
    have R2 := R1.frP f2
    repeat' (first | (refine Rules.st H okX5_saves [] ?_; (conv => whnf); try (show T _ _ _ [_, _, _, _, _, _, _] _ _)) | refine br_t (by first | decide | assumption) ?_ | refine br_f (by first | decide | assumption) ?_ | refine br_c (fun _ => ?_) (fun _ => ?_) | refine ⟨by decide, ?_⟩ | refine ⟨by first | assumption | (unfold vp_in; decide) | ((with_reducible (refine vp_in_nI ?_ ?_)) <;> omega), ?_⟩ | fail)
    rw [ci, R2.ck hi]
    refine X5_goesDown H hi R2 g (fun S3 R3 F3 => ?_)
    repeat' (first | (refine Rules.st H okX5_saves [] ?_; (conv => whnf); try (show T _ _ _ [_, _, _, _, _, _, _] _ _)) | refine br_t (by first | decide | assumption) ?_ | refine br_f (by first | decide | assumption) ?_ | refine br_c (fun _ => ?_) (fun _ => ?_) | refine ⟨by decide, ?_⟩ | refine ⟨by first | assumption | (unfold vp_in; decide) | ((with_reducible (refine vp_in_nI ?_ ?_)) <;> omega), ?_⟩ | fail)
    rw [ci, R3.ck hi]
    refine X5_longMinutes2 H hi R3 g.down hz.2 (fun S4 s4 u38 e32' => ?_)
    have k4 : KeptM 1 S4 S1 := fun j hj => by
      rw [u38 _ (by omega)]
      exact (k2.fr F3) j hj
    obtain ⟨w1, w2, w3⟩ := sav_eq (E1 := longK i n K 5 i) (E2 := longK i n (downK K i) 5 i) (D := downK K i 5 i) (c := K 5 i) (((B.long hi g (by omega)).2 i hi).mono (by omega)) ((((B.down hi g (by omega)).long hi g.down (by omega)).2 i hi).mono (by omega)) ((B.2 i hi).mono (by omega))
    repeat' (first | (refine Rules.st H okX5_saves [] ?_; (conv => whnf); try (show T _ _ _ [_, _, _, _, _, _, _] _ _)) | refine br_t (by first | decide | assumption) ?_ | refine br_f (by first | decide | assumption) ?_ | refine br_c (fun _ => ?_) (fun _ => ?_) | refine ⟨by decide, ?_⟩ | refine ⟨by first | assumption | (unfold vp_in; decide) | ((with_reducible (refine vp_in_nI ?_ ?_)) <;> omega), ?_⟩ | fail)
    rw [w1]
    refine X5_passesAll_B H (w := 1) (by omega) k4 (fun S5 b1 b2 => ?_)
    have s5 : ScM 0 S1 S5 := back (by omega) f2 ((ScMY.fr F3).tr s4.y) (by rw [s4.at (by unfold scrM; omega), R3.st, R1.st, downK_s]) b1 b2
    have e5 : S5 25 32 = pcI (longK i n (downK K i) 0 1) := by rw [b2 25 32 (by unfold inP; omega) (by omega), e32']
    have h1 := h1 S5 (s1.tr s5)
    unfold savesK at h1
    by_cases q1 : pcI (longK i n (downK K i) 0 1) < pcI (longK i n K 0 1)
    · have q1' : S5 25 32 < pcI (longK i n K 0 1) := by rw [e5]; exact q1
      rw [if_pos q1] at h1
      repeat' (first | (refine Rules.st H okX5_saves [] ?_; (conv => whnf); try (show T _ _ _ [_, _, _, _, _, _, _] _ _)) | refine br_t (by first | decide | assumption) ?_ | refine br_f (by first | decide | assumption) ?_ | refine br_c (fun _ => ?_) (fun _ => ?_) | refine ⟨by decide, ?_⟩ | refine ⟨by first | assumption | (unfold vp_in; decide) | ((with_reducible (refine vp_in_nI ?_ ?_)) <;> omega), ?_⟩ | fail)
      exact h1
    · have q1' : ¬ S5 25 32 < pcI (longK i n K 0 1) := by rw [e5]; exact q1
      rw [if_neg q1] at h1
      by_cases q2 : longK i n (downK K i) 5 i - K 5 i ≤ longK i n K 5 i - K 5 i
      · repeat' (first | (refine Rules.st H okX5_saves [] ?_; (conv => whnf); try (show T _ _ _ [_, _, _, _, _, _, _] _ _)) | refine br_t (by first | decide | assumption) ?_ | refine br_f (by first | decide | assumption) ?_ | refine br_c (fun _ => ?_) (fun _ => ?_) | refine ⟨by decide, ?_⟩ | refine ⟨by first | assumption | (unfold vp_in; decide) | ((with_reducible (refine vp_in_nI ?_ ?_)) <;> omega), ?_⟩ | fail)
        rw [w2 q2]
        exact h1
      · rw [← w3 q2] at h1
        repeat' (first | (refine Rules.st H okX5_saves [] ?_; (conv => whnf); try (show T _ _ _ [_, _, _, _, _, _, _] _ _)) | refine br_t (by first | decide | assumption) ?_ | refine br_f (by first | decide | assumption) ?_ | refine br_c (fun _ => ?_) (fun _ => ?_) | refine ⟨by decide, ?_⟩ | refine ⟨by first | assumption | (unfold vp_in; decide) | ((with_reducible (refine vp_in_nI ?_ ?_)) <;> omega), ?_⟩ | fail)
        exact h1
  · rw [if_neg (okM_neg hno)] at h1
    repeat' (first | (refine Rules.st H okX5_saves [] ?_; (conv => whnf); try (show T _ _ _ [_, _, _, _, _, _, _] _ _)) | refine br_t (by first | decide | assumption) ?_ | refine br_f (by first | decide | assumption) ?_ | refine br_c (fun _ => ?_) (fun _ => ?_) | refine ⟨by decide, ?_⟩ | refine ⟨by first | assumption | (unfold vp_in; decide) | ((with_reducible (refine vp_in_nI ?_ ?_)) <;> omega), ?_⟩ | fail)
    refine X5_no H ScM.rf (k := 1) (by omega) (by omega) (by decide) (fun S' hS' => ?_)
    repeat' (first | (refine Rules.st H okX5_saves [] ?_; (conv => whnf); try (show T _ _ _ [_, _, _, _, _, _, _] _ _)) | refine br_t (by first | decide | assumption) ?_ | refine br_f (by first | decide | assumption) ?_ | refine br_c (fun _ => ?_) (fun _ => ?_) | refine ⟨by decide, ?_⟩ | refine ⟨by first | assumption | (unfold vp_in; decide) | ((with_reducible (refine vp_in_nI ?_ ?_)) <;> omega), ?_⟩ | fail)
    exact h1 S' hS'
set_option maxRecDepth 100000 in
theorem X5_areTwo (H : Rules C T) {n : Nat} (hn8 : n ≤ 8) {S K : Mem} {d : Int32} (R : RepM S K d) (hn : K 0 0 = nI n) {x y : Int32} {Q : Pst} (h1 : ∀ a b, a < n → b < n → ¬ a = b → x = nI a → y = nI b → Q (some (.int 1)) S) (h0 : ¬ two2 n x y → Q (some (.int 0)) S) : C mX5_areTwo [.ref 25, .int x, .int y] S Q := by
  refine Rules.go H (by decide) (Nat.le_of_ble_eq_true rfl) ?_
  repeat' (first | (refine Rules.st H okX5_areTwo [] ?_; (conv => whnf); try (show T _ _ _ [_, _, _] _ _)) | refine br_t (by first | decide | assumption) ?_ | refine br_f (by first | decide | assumption) ?_ | refine br_c (fun _ => ?_) (fun _ => ?_) | refine ⟨by decide, ?_⟩ | refine ⟨by first | assumption | (unfold vp_in; decide) | ((with_reducible (refine vp_in_nI ?_ ?_)) <;> omega), ?_⟩ | fail)
  refine X5_isRoom H (R.rm.trans hn) hn8 (fun a ha ea => ?_) (fun hno => ?_)
  · repeat' (first | (refine Rules.st H okX5_areTwo [] ?_; (conv => whnf); try (show T _ _ _ [_, _, _] _ _)) | refine br_t (by first | decide | assumption) ?_ | refine br_f (by first | decide | assumption) ?_ | refine br_c (fun _ => ?_) (fun _ => ?_) | refine ⟨by decide, ?_⟩ | refine ⟨by first | assumption | (unfold vp_in; decide) | ((with_reducible (refine vp_in_nI ?_ ?_)) <;> omega), ?_⟩ | fail)
    refine X5_isRoom H (R.rm.trans hn) hn8 (fun b hb eb => ?_) (fun hno => ?_)
    · by_cases q : x = y
      · repeat' (first | (refine Rules.st H okX5_areTwo [] ?_; (conv => whnf); try (show T _ _ _ [_, _, _] _ _)) | refine br_t (by first | decide | assumption) ?_ | refine br_f (by first | decide | assumption) ?_ | refine br_c (fun _ => ?_) (fun _ => ?_) | refine ⟨by decide, ?_⟩ | refine ⟨by first | assumption | (unfold vp_in; decide) | ((with_reducible (refine vp_in_nI ?_ ?_)) <;> omega), ?_⟩ | fail)
        exact h0 (fun z => z.2.2 q)
      · repeat' (first | (refine Rules.st H okX5_areTwo [] ?_; (conv => whnf); try (show T _ _ _ [_, _, _] _ _)) | refine br_t (by first | decide | assumption) ?_ | refine br_f (by first | decide | assumption) ?_ | refine br_c (fun _ => ?_) (fun _ => ?_) | refine ⟨by decide, ?_⟩ | refine ⟨by first | assumption | (unfold vp_in; decide) | ((with_reducible (refine vp_in_nI ?_ ?_)) <;> omega), ?_⟩ | fail)
        exact h1 a b ha hb (fun z => q (by rw [ea, eb, z])) ea eb
    · repeat' (first | (refine Rules.st H okX5_areTwo [] ?_; (conv => whnf); try (show T _ _ _ [_, _, _] _ _)) | refine br_t (by first | decide | assumption) ?_ | refine br_f (by first | decide | assumption) ?_ | refine br_c (fun _ => ?_) (fun _ => ?_) | refine ⟨by decide, ?_⟩ | refine ⟨by first | assumption | (unfold vp_in; decide) | ((with_reducible (refine vp_in_nI ?_ ?_)) <;> omega), ?_⟩ | fail)
      exact h0 (fun z => okR_neg hn8 hno z.2.1)
  · repeat' (first | (refine Rules.st H okX5_areTwo [] ?_; (conv => whnf); try (show T _ _ _ [_, _, _] _ _)) | refine br_t (by first | decide | assumption) ?_ | refine br_f (by first | decide | assumption) ?_ | refine br_c (fun _ => ?_) (fun _ => ?_) | refine ⟨by decide, ?_⟩ | refine ⟨by first | assumption | (unfold vp_in; decide) | ((with_reducible (refine vp_in_nI ?_ ?_)) <;> omega), ?_⟩ | fail)
    exact h0 (fun z => okR_neg hn8 hno z.1)
set_option maxRecDepth 100000 in
theorem pc_t : ∀ D, D < 256 → (0 ≤ (pcI (nI D)).toInt ∧ (pcI (nI D)).toInt ≤ 8) := by decide +kernel
set_option maxRecDepth 100000 in
theorem Gd.pcT {K : Mem} {n : Nat} (g : Gd K n) : isT 8 (pcI (K 0 1)) := by
  obtain ⟨D, hD, e⟩ := g.2.2.1.lt g.2.1
  rw [e]
  exact pc_t D hD
set_option maxRecDepth 100000 in
theorem toge_cases {d0 c0 d1 c1 : Int32} (h1 : isT 8 d0) (h2 : isT 100000 c0) (h3 : isT 8 d1) (h4 : isT 100000 c1) : (d1 - d0 = 0 ↔ d1 = d0) ∧ (c0 - c1 = 0 ↔ c1 = c0) ∧ (0 < d1 - d0 ↔ d0 < d1) ∧ (0 < c0 - c1 ↔ c1 < c0) := by
  unfold isT at *
  have z : (0 : Int32).toInt = 0 := by decide
  refine ⟨?_, ?_, ?_, ?_⟩
  · rw [eqT, eqT, subT (by omega) (by omega)]; omega
  · rw [eqT, eqT, subT (by omega) (by omega)]; omega
  · rw [ltT, ltT, subT (by omega) (by omega)]; omega
  · rw [ltT, ltT, subT (by omega) (by omega)]; omega
set_option maxRecDepth 100000 in
theorem X5_together (H : Rules C T) {S K : Mem} {n : Nat} (X : XM S K n) (B : BK 999 K) {x y : Int32} {Q : Pst} (h1 : two2 n x y → AnsM S (0, togeK K (ix x) (ix y)) Q) (h0 : ¬ two2 n x y → AnsM S (1, -1) Q) : C mX5_together [.ref 25, .int x, .int y] S Q := by
  obtain ⟨⟨d, R⟩, g, hz⟩ := X
  have h8 := g.2.1
  refine Rules.go H (by decide) (Nat.le_of_ble_eq_true rfl) ?_
  repeat' (first | (refine Rules.st H okX5_together [] ?_; (conv => whnf); try (show T _ _ _ [_, _, _, _, _, _, _] _ _)) | refine br_t (by first | decide | assumption) ?_ | refine br_f (by first | decide | assumption) ?_ | refine br_c (fun _ => ?_) (fun _ => ?_) | refine ⟨by decide, ?_⟩ | refine ⟨by first | assumption | (unfold vp_in; decide) | ((with_reducible (refine vp_in_nI ?_ ?_)) <;> omega), ?_⟩ | fail)
  refine X5_areTwo H h8 R g.1 (fun a b ha hb hab ea eb => ?_) (fun hno => ?_)
  · replace h1 := h1 ⟨by rw [ea]; exact okR_nI h8 ha, by rw [eb]; exact okR_nI h8 hb, fun z => hab (by rw [ea, eb] at z; exact (nI_eq (by omega) (by omega)).mp z)⟩
    rw [ea, eb, show ix (nI a) = a from nIc (by omega), show ix (nI b) = b from nIc (by omega)] at h1
    subst ea eb
    unfold togeK bothsK aloneK at h1
    have g1 := g.both ha
    have g2 := g1.both hb
    have B2 := (B.both g ha (by omega)).both g1 hb (by omega)
    have g3 := g.visit (m := 0) ha
    have g4 := g3.visit (m := 1) hb
    have B4 := (B.visit g (m := 0) (by omega) ha (by omega)).visit g3 (m := 1) (by omega) hb (by omega)
    have tc := toge_cases (c0 := laterK (bothK (bothK K a).2 b).2) (c1 := laterK (visitK (visitK K 0 a).2 1 b).2) g2.pcT (((B2.2 0 (by omega)).max (B2.2 1 (by omega))).mono (by omega)) g4.pcT (((B4.2 0 (by omega)).max (B4.2 1 (by omega))).mono (by omega))
    repeat' (first | (refine Rules.st H okX5_together [] ?_; (conv => whnf); try (show T _ _ _ [_, _, _, _, _, _, _] _ _)) | refine br_t (by first | decide | assumption) ?_ | refine br_f (by first | decide | assumption) ?_ | refine br_c (fun _ => ?_) (fun _ => ?_) | refine ⟨by decide, ?_⟩ | refine ⟨by first | assumption | (unfold vp_in; decide) | ((with_reducible (refine vp_in_nI ?_ ?_)) <;> omega), ?_⟩ | fail)
    refine X5_minds H (fun S1 k1 f1 => ?_)
    have R1 := R.frP f1
    repeat' (first | (refine Rules.st H okX5_together [] ?_; (conv => whnf); try (show T _ _ _ [_, _, _, _, _, _, _] _ _)) | refine br_t (by first | decide | assumption) ?_ | refine br_f (by first | decide | assumption) ?_ | refine br_c (fun _ => ?_) (fun _ => ?_) | refine ⟨by decide, ?_⟩ | refine ⟨by first | assumption | (unfold vp_in; decide) | ((with_reducible (refine vp_in_nI ?_ ?_)) <;> omega), ?_⟩ | fail)
    refine X5_visitBoth H R1 g ha (fun S2 R2 F2 => ?_)
    repeat' (first | (refine Rules.st H okX5_together [] ?_; (conv => whnf); try (show T _ _ _ [_, _, _, _, _, _, _] _ _)) | refine br_t (by first | decide | assumption) ?_ | refine br_f (by first | decide | assumption) ?_ | refine br_c (fun _ => ?_) (fun _ => ?_) | refine ⟨by decide, ?_⟩ | refine ⟨by first | assumption | (unfold vp_in; decide) | ((with_reducible (refine vp_in_nI ?_ ?_)) <;> omega), ?_⟩ | fail)
    refine X5_visitBoth H R2 g1 hb (fun S3 R3 F3 => ?_)
    repeat' (first | (refine Rules.st H okX5_together [] ?_; (conv => whnf); try (show T _ _ _ [_, _, _, _, _, _, _] _ _)) | refine br_t (by first | decide | assumption) ?_ | refine br_f (by first | decide | assumption) ?_ | refine br_c (fun _ => ?_) (fun _ => ?_) | refine ⟨by decide, ?_⟩ | refine ⟨by first | assumption | (unfold vp_in; decide) | ((with_reducible (refine vp_in_nI ?_ ?_)) <;> omega), ?_⟩ | fail)
    refine X5_manyDone H R3 g2 ?_
    repeat' (first | (refine Rules.st H okX5_together [] ?_; (conv => whnf); try (show T _ _ _ [_, _, _, _, _, _, _] _ _)) | refine br_t (by first | decide | assumption) ?_ | refine br_f (by first | decide | assumption) ?_ | refine br_c (fun _ => ?_) (fun _ => ?_) | refine ⟨by decide, ?_⟩ | refine ⟨by first | assumption | (unfold vp_in; decide) | ((with_reducible (refine vp_in_nI ?_ ?_)) <;> omega), ?_⟩ | fail)
    refine X5_later H R3 ?_
    repeat' (first | (refine Rules.st H okX5_together [] ?_; (conv => whnf); try (show T _ _ _ [_, _, _, _, _, _, _] _ _)) | refine br_t (by first | decide | assumption) ?_ | refine br_f (by first | decide | assumption) ?_ | refine br_c (fun _ => ?_) (fun _ => ?_) | refine ⟨by decide, ?_⟩ | refine ⟨by first | assumption | (unfold vp_in; decide) | ((with_reducible (refine vp_in_nI ?_ ?_)) <;> omega), ?_⟩ | fail)
    refine X5_forgets H ((k1.fr F2).fr F3) (fun S4 b1 b2 => ?_)
    have s4 : ScM 0 S S4 := back (by omega) f1 (ScMY.fr (F2.tr F3)) (by rw [R3.st, R.st, bothK_s, bothK_s]) b1 b2
    obtain ⟨d4, R4⟩ := s4.rep R
    repeat' (first | (refine Rules.st H okX5_together [] ?_; (conv => whnf); try (show T _ _ _ [_, _, _, _, _, _, _] _ _)) | refine br_t (by first | decide | assumption) ?_ | refine br_f (by first | decide | assumption) ?_ | refine br_c (fun _ => ?_) (fun _ => ?_) | refine ⟨by decide, ?_⟩ | refine ⟨by first | assumption | (unfold vp_in; decide) | ((with_reducible (refine vp_in_nI ?_ ?_)) <;> omega), ?_⟩ | fail)
    refine X5_minds H (fun S5 k5 f5 => ?_)
    have R5 := R4.frP f5
    repeat' (first | (refine Rules.st H okX5_together [] ?_; (conv => whnf); try (show T _ _ _ [_, _, _, _, _, _, _] _ _)) | refine br_t (by first | decide | assumption) ?_ | refine br_f (by first | decide | assumption) ?_ | refine br_c (fun _ => ?_) (fun _ => ?_) | refine ⟨by decide, ?_⟩ | refine ⟨by first | assumption | (unfold vp_in; decide) | ((with_reducible (refine vp_in_nI ?_ ?_)) <;> omega), ?_⟩ | fail)
    refine X5_visit H R5 (m := 0) g (by omega) ha (fun S6 R6 F6 => ?_)
    repeat' (first | (refine Rules.st H okX5_together [] ?_; (conv => whnf); try (show T _ _ _ [_, _, _, _, _, _, _] _ _)) | refine br_t (by first | decide | assumption) ?_ | refine br_f (by first | decide | assumption) ?_ | refine br_c (fun _ => ?_) (fun _ => ?_) | refine ⟨by decide, ?_⟩ | refine ⟨by first | assumption | (unfold vp_in; decide) | ((with_reducible (refine vp_in_nI ?_ ?_)) <;> omega), ?_⟩ | fail)
    refine X5_visit H R6 (m := 1) g3 (by omega) hb (fun S7 R7 F7 => ?_)
    repeat' (first | (refine Rules.st H okX5_together [] ?_; (conv => whnf); try (show T _ _ _ [_, _, _, _, _, _, _] _ _)) | refine br_t (by first | decide | assumption) ?_ | refine br_f (by first | decide | assumption) ?_ | refine br_c (fun _ => ?_) (fun _ => ?_) | refine ⟨by decide, ?_⟩ | refine ⟨by first | assumption | (unfold vp_in; decide) | ((with_reducible (refine vp_in_nI ?_ ?_)) <;> omega), ?_⟩ | fail)
    refine X5_manyDone H R7 g4 ?_
    repeat' (first | (refine Rules.st H okX5_together [] ?_; (conv => whnf); try (show T _ _ _ [_, _, _, _, _, _, _] _ _)) | refine br_t (by first | decide | assumption) ?_ | refine br_f (by first | decide | assumption) ?_ | refine br_c (fun _ => ?_) (fun _ => ?_) | refine ⟨by decide, ?_⟩ | refine ⟨by first | assumption | (unfold vp_in; decide) | ((with_reducible (refine vp_in_nI ?_ ?_)) <;> omega), ?_⟩ | fail)
    refine X5_later H R7 ?_
    repeat' (first | (refine Rules.st H okX5_together [] ?_; (conv => whnf); try (show T _ _ _ [_, _, _, _, _, _, _] _ _)) | refine br_t (by first | decide | assumption) ?_ | refine br_f (by first | decide | assumption) ?_ | refine br_c (fun _ => ?_) (fun _ => ?_) | refine ⟨by decide, ?_⟩ | refine ⟨by first | assumption | (unfold vp_in; decide) | ((with_reducible (refine vp_in_nI ?_ ?_)) <;> omega), ?_⟩ | fail)
    refine X5_forgets H ((k5.fr F6).fr F7) (fun S9 b1 b2 => ?_)
    have s9 : ScM 0 S4 S9 := back (by omega) f5 (ScMY.fr (F6.tr F7)) (by rw [R7.st, R4.st, visitK_s, visitK_s]) b1 b2
    have h1 := h1 S9 (s4.tr s9)
    change Q (some (.int (toge (pcI ((bothK (bothK K a).2 b).2 0 1)) (laterK (bothK (bothK K a).2 b).2) (pcI ((visitK (visitK K 0 a).2 1 b).2 0 1)) (laterK (visitK (visitK K 0 a).2 1 b).2)))) S9 at h1
    generalize pcI ((bothK (bothK K a).2 b).2 0 1) = d0 at h1 tc ⊢
    generalize laterK (bothK (bothK K a).2 b).2 = c0 at h1 tc ⊢
    generalize pcI ((visitK (visitK K 0 a).2 1 b).2 0 1) = d1 at h1 tc ⊢
    generalize laterK (visitK (visitK K 0 a).2 1 b).2 = c1 at h1 tc ⊢
    obtain ⟨t1, t2, t3, t4⟩ := tc
    unfold toge at h1
    by_cases p1 : d1 - d0 = 0
    · have p1' := t1.mp p1
      by_cases p2 : c0 - c1 = 0
      · rw [if_pos ⟨p1', t2.mp p2⟩] at h1
        repeat' (first | (refine Rules.st H okX5_together [] ?_; (conv => whnf); try (show T _ _ _ [_, _, _, _, _, _, _] _ _)) | refine br_t (by first | decide | assumption) ?_ | refine br_f (by first | decide | assumption) ?_ | refine br_c (fun _ => ?_) (fun _ => ?_) | refine ⟨by decide, ?_⟩ | refine ⟨by first | assumption | (unfold vp_in; decide) | ((with_reducible (refine vp_in_nI ?_ ?_)) <;> omega), ?_⟩ | fail)
        exact h1
      · rw [if_neg (fun z => p2 (t2.mpr z.2))] at h1
        have p3 : ¬ 0 < d1 - d0 := by rw [p1]; decide
        by_cases p4 : 0 < c0 - c1
        · rw [if_pos (Or.inr ⟨p1', t4.mp p4⟩)] at h1
          have p5 := Int32.not_le.mpr p4
          repeat' (first | (refine Rules.st H okX5_together [] ?_; (conv => whnf); try (show T _ _ _ [_, _, _, _, _, _, _] _ _)) | refine br_t (by first | decide | assumption) ?_ | refine br_f (by first | decide | assumption) ?_ | refine br_c (fun _ => ?_) (fun _ => ?_) | refine ⟨by decide, ?_⟩ | refine ⟨by first | assumption | (unfold vp_in; decide) | ((with_reducible (refine vp_in_nI ?_ ?_)) <;> omega), ?_⟩ | fail)
          exact h1
        · rw [if_neg (fun z => z.elim (fun z => p3 (t3.mpr z)) (fun z => p4 (t4.mpr z.2)))] at h1
          have p5 := Int32.not_lt.mp p4
          repeat' (first | (refine Rules.st H okX5_together [] ?_; (conv => whnf); try (show T _ _ _ [_, _, _, _, _, _, _] _ _)) | refine br_t (by first | decide | assumption) ?_ | refine br_f (by first | decide | assumption) ?_ | refine br_c (fun _ => ?_) (fun _ => ?_) | refine ⟨by decide, ?_⟩ | refine ⟨by first | assumption | (unfold vp_in; decide) | ((with_reducible (refine vp_in_nI ?_ ?_)) <;> omega), ?_⟩ | fail)
          exact h1
    · rw [if_neg (fun z => p1 (t1.mpr z.1))] at h1
      by_cases p3 : 0 < d1 - d0
      · rw [if_pos (Or.inl (t3.mp p3))] at h1
        repeat' (first | (refine Rules.st H okX5_together [] ?_; (conv => whnf); try (show T _ _ _ [_, _, _, _, _, _, _] _ _)) | refine br_t (by first | decide | assumption) ?_ | refine br_f (by first | decide | assumption) ?_ | refine br_c (fun _ => ?_) (fun _ => ?_) | refine ⟨by decide, ?_⟩ | refine ⟨by first | assumption | (unfold vp_in; decide) | ((with_reducible (refine vp_in_nI ?_ ?_)) <;> omega), ?_⟩ | fail)
        exact h1
      · rw [if_neg (fun z => z.elim (fun z => p3 (t3.mpr z)) (fun z => p1 (t1.mpr z.1)))] at h1
        repeat' (first | (refine Rules.st H okX5_together [] ?_; (conv => whnf); try (show T _ _ _ [_, _, _, _, _, _, _] _ _)) | refine br_t (by first | decide | assumption) ?_ | refine br_f (by first | decide | assumption) ?_ | refine br_c (fun _ => ?_) (fun _ => ?_) | refine ⟨by decide, ?_⟩ | refine ⟨by first | assumption | (unfold vp_in; decide) | ((with_reducible (refine vp_in_nI ?_ ?_)) <;> omega), ?_⟩ | fail)
        exact h1
  · have h0 := h0 hno
    repeat' (first | (refine Rules.st H okX5_together [] ?_; (conv => whnf); try (show T _ _ _ [_, _, _, _, _, _, _] _ _)) | refine br_t (by first | decide | assumption) ?_ | refine br_f (by first | decide | assumption) ?_ | refine br_c (fun _ => ?_) (fun _ => ?_) | refine ⟨by decide, ?_⟩ | refine ⟨by first | assumption | (unfold vp_in; decide) | ((with_reducible (refine vp_in_nI ?_ ?_)) <;> omega), ?_⟩ | fail)
    refine X5_no H ScM.rf (k := 1) (by omega) (by omega) (by decide) (fun S' hS' => ?_)
    repeat' (first | (refine Rules.st H okX5_together [] ?_; (conv => whnf); try (show T _ _ _ [_, _, _, _, _, _, _] _ _)) | refine br_t (by first | decide | assumption) ?_ | refine br_f (by first | decide | assumption) ?_ | refine br_c (fun _ => ?_) (fun _ => ?_) | refine ⟨by decide, ?_⟩ | refine ⟨by first | assumption | (unfold vp_in; decide) | ((with_reducible (refine vp_in_nI ?_ ?_)) <;> omega), ?_⟩ | fail)
    exact h0 S' hS'
end M27
