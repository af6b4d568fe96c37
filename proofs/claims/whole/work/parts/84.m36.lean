section M36
variable {C : Cst} {T : Nat → Pst → Nat → Lcs → List Value → Mem → Prop}
set_option maxRecDepth 100000 in
theorem bt_and (a b : Int32) (i : Nat) : bt (a &&& b) i = bt a i &&& bt b i := by
  unfold bt
  rw [Int32.shiftRight_and]
  generalize a >>> (nI i &&& 31) = x
  generalize b >>> (nI i &&& 31) = y
  rw [Int32.and_assoc x 1, ← Int32.and_assoc 1 y, Int32.and_comm 1 y, Int32.and_assoc y 1 1, Int32.and_self, ← Int32.and_assoc]
set_option maxRecDepth 100000 in
theorem bt_xo (a b : Int32) (i : Nat) : bt (a ^^^ b) i = bt a i ^^^ bt b i := by
  unfold bt
  rw [Int32.shiftRight_xor, and_x]
set_option maxRecDepth 100000 in
theorem bt_m1 : ∀ i, i < 8 → bt (-1) i = 1 := by decide
set_option maxRecDepth 100000 in
theorem share_bits {set hers : Int32} (h : hers &&& (set ^^^ (-1)) = 0) {i : Nat} (hi : i < 8) : (bt set i = 1 → bt (set &&& (hers ^^^ (-1))) i = 1 - bt hers i) ∧ (¬ bt set i = 1 → bt (set &&& (hers ^^^ (-1))) i = 0 ∧ bt hers i = 0) := by
  have e : bt hers i &&& (bt set i ^^^ 1) = 0 := by
    rw [← bt_m1 i hi, ← bt_xo, ← bt_and, h, bt0 i hi]
  rw [bt_and, bt_xo, bt_m1 i hi]
  rcases bt_2 set i with g | g <;> rcases bt_2 hers i with f | f <;> rw [g, f] at e <;> rw [g, f] <;> first | exact absurd e (by decide) | decide
set_option maxRecDepth 100000 in
theorem Gd.sha {n : Nat} {set hers : Int32} : ∀ {k i : Nat} {K : Mem}, i + k = n → Gd K n → Gd (shaK set hers k i K) n
  | 0, _, _, _, g => g
  | k + 1, i, K, hi, g => by
    unfold shaK
    refine Gd.sha (by omega) ?_
    split
    · exact g.visit (by omega)
    · exact g
set_option maxRecDepth 100000 in
theorem shaK_s (set hers : Int32) : ∀ (k i : Nat) (K : Mem), shaK set hers k i K 0 3 = K 0 3
  | 0, _, _ => rfl
  | k + 1, i, K => by
    unfold shaK
    rw [shaK_s]
    split
    · exact visitK_s K _ _
    · rfl
set_option maxRecDepth 100000 in
theorem X5_shares_l (H : Rules C T) {n : Nat} {d set hers : Int32} {Q : Pst} : ∀ (k i : Nat) (S K : Mem), i + k = n → RepM S K d → Gd K n → (∀ S', RepM S' (shaK set hers k i K) d → FrM S S' → T mX5_shares Q 39 [some (.ref 25), some (.int set), some (.int hers), some (.int (nI n))] [] S') → T mX5_shares Q 6 [some (.ref 25), some (.int set), some (.int hers), some (.int (nI i))] [] S := by
  intro k
  induction k with
  | zero =>
    intro i S K hi R g h1
    have h8 := g.2.1
    have hge : S 25 8 ≤ nI i := by rw [R.rm, g.1]; exact nI_le (by omega) (by omega)
    have h1 := h1 S R FrM.rf
    rw [show n = i by omega] at h1
    skip
    repeat' (first | (refine Rules.st H okX5_shares [6, 39] ?_; (conv => whnf); try (show T _ _ _ [_, _, _, _] _ _)) | refine br_t (by first | decide | assumption) ?_ | refine br_f (by first | decide | assumption) ?_ | refine br_c (fun _ => ?_) (fun _ => ?_) | refine ⟨by decide, ?_⟩ | refine ⟨by first | assumption | (unfold vp_in; decide) | ((with_reducible (refine vp_in_nI ?_ ?_)) <;> omega), ?_⟩ | fail)
    exact Halt.mk h1
  | succ k ih =>
    intro i S K hi R g h1
    have h8 := g.2.1
    have hge : ¬ S 25 8 ≤ nI i := by rw [R.rm, g.1]; exact nI_ge (by omega) (by omega)
    unfold shaK at h1
    skip
    repeat' (first | (refine Rules.st H okX5_shares [6, 39] ?_; (conv => whnf); try (show T _ _ _ [_, _, _, _] _ _)) | refine br_t (by first | decide | assumption) ?_ | refine br_f (by first | decide | assumption) ?_ | refine br_c (fun _ => ?_) (fun _ => ?_) | refine ⟨by decide, ?_⟩ | refine ⟨by first | assumption | (unfold vp_in; decide) | ((with_reducible (refine vp_in_nI ?_ ?_)) <;> omega), ?_⟩ | fail)
    refine X5_has H (fun q => ?_) (fun q => ?_)
    · rw [if_pos q] at h1
      repeat' (first | (refine Rules.st H okX5_shares [6, 39] ?_; (conv => whnf); try (show T _ _ _ [_, _, _, _] _ _)) | refine br_t (by first | decide | assumption) ?_ | refine br_f (by first | decide | assumption) ?_ | refine br_c (fun _ => ?_) (fun _ => ?_) | refine ⟨by decide, ?_⟩ | refine ⟨by first | assumption | (unfold vp_in; decide) | ((with_reducible (refine vp_in_nI ?_ ?_)) <;> omega), ?_⟩ | fail)
      have hm : ix (bt hers i) < 2 := by rcases bt_2 hers i with f | f <;> rw [f] <;> decide
      have eb : bt hers i = nI (ix (bt hers i)) := by rcases bt_2 hers i with f | f <;> rw [f] <;> rfl
      show C _ [.ref 25, .int (bt hers i), .int (nI i)] _ _
      rw [eb]
      refine X5_visit H R g hm (by omega) (fun S1 R1 F1 => ?_)
      repeat' (first | (refine Rules.st H okX5_shares [6, 39] ?_; (conv => whnf); try (show T _ _ _ [_, _, _, _] _ _)) | refine br_t (by first | decide | assumption) ?_ | refine br_f (by first | decide | assumption) ?_ | refine br_c (fun _ => ?_) (fun _ => ?_) | refine ⟨by decide, ?_⟩ | refine ⟨by first | assumption | (unfold vp_in; decide) | ((with_reducible (refine vp_in_nI ?_ ?_)) <;> omega), ?_⟩ | fail)
      refine Halt.mk ?_
      rw [nI_1]
      exact ih (i + 1) S1 _ (by omega) R1 (g.visit (by omega)) (fun S' R' F' => h1 S' R' (F1.tr F'))
    · rw [if_neg q] at h1
      repeat' (first | (refine Rules.st H okX5_shares [6, 39] ?_; (conv => whnf); try (show T _ _ _ [_, _, _, _] _ _)) | refine br_t (by first | decide | assumption) ?_ | refine br_f (by first | decide | assumption) ?_ | refine br_c (fun _ => ?_) (fun _ => ?_) | refine ⟨by decide, ?_⟩ | refine ⟨by first | assumption | (unfold vp_in; decide) | ((with_reducible (refine vp_in_nI ?_ ?_)) <;> omega), ?_⟩ | fail)
      refine Halt.mk ?_
      rw [nI_1]
      exact ih (i + 1) S _ (by omega) R g h1
set_option maxRecDepth 100000 in
theorem X5_shares (H : Rules C T) {S K : Mem} {d : Int32} {n : Nat} {set hers : Int32} (R : RepM S K d) (g : Gd K n) {Q : Pst} (h1 : ∀ S', ScM 0 S S' → S' 25 30 = pcI (shaK set hers n 0 K 0 1) → S' 25 31 = laterK (shaK set hers n 0 K) → Q none S') : C mX5_shares [.ref 25, .int set, .int hers] S Q := by
  refine Rules.go H (by decide) (Nat.le_of_ble_eq_true rfl) ?_
  repeat' (first | (refine Rules.st H okX5_shares [6] ?_; (conv => whnf); try (show T _ _ _ [_, _, _, _] _ _)) | refine br_t (by first | decide | assumption) ?_ | refine br_f (by first | decide | assumption) ?_ | refine br_c (fun _ => ?_) (fun _ => ?_) | refine ⟨by decide, ?_⟩ | refine ⟨by first | assumption | (unfold vp_in; decide) | ((with_reducible (refine vp_in_nI ?_ ?_)) <;> omega), ?_⟩ | fail)
  refine X5_minds H (fun S1 k1 f1 => ?_)
  have R1 := R.frP f1
  repeat' (first | (refine Rules.st H okX5_shares [6] ?_; (conv => whnf); try (show T _ _ _ [_, _, _, _] _ _)) | refine br_t (by first | decide | assumption) ?_ | refine br_f (by first | decide | assumption) ?_ | refine br_c (fun _ => ?_) (fun _ => ?_) | refine ⟨by decide, ?_⟩ | refine ⟨by first | assumption | (unfold vp_in; decide) | ((with_reducible (refine vp_in_nI ?_ ?_)) <;> omega), ?_⟩ | fail)
  refine Halt.mk ?_
  refine X5_shares_l H n 0 S1 K (by omega) R1 g (fun S2 R2 F2 => ?_)
  have g2 : Gd (shaK set hers n 0 K) n := g.sha (by omega)
  skip
  repeat' (first | (refine Rules.st H okX5_shares [] ?_; (conv => whnf); try (show T _ _ _ [_, _, _, _] _ _)) | refine br_t (by first | decide | assumption) ?_ | refine br_f (by first | decide | assumption) ?_ | refine br_c (fun _ => ?_) (fun _ => ?_) | refine ⟨by decide, ?_⟩ | refine ⟨by first | assumption | (unfold vp_in; decide) | ((with_reducible (refine vp_in_nI ?_ ?_)) <;> omega), ?_⟩ | fail)
  refine X5_manyDone H R2 g2 ?_
  repeat' (first | (refine Rules.st H okX5_shares [] ?_; (conv => whnf); try (show T _ _ _ [_, _, _, _] _ _)) | refine br_t (by first | decide | assumption) ?_ | refine br_f (by first | decide | assumption) ?_ | refine br_c (fun _ => ?_) (fun _ => ?_) | refine ⟨by decide, ?_⟩ | refine ⟨by first | assumption | (unfold vp_in; decide) | ((with_reducible (refine vp_in_nI ?_ ?_)) <;> omega), ?_⟩ | fail)
  have R3 := R2.o (a := 25) (j := 30) (v := pcI (shaK set hers n 0 K 0 1)) (by unfold inM; omega)
  refine X5_later H R3 ?_
  repeat' (first | (refine Rules.st H okX5_shares [] ?_; (conv => whnf); try (show T _ _ _ [_, _, _, _] _ _)) | refine br_t (by first | decide | assumption) ?_ | refine br_f (by first | decide | assumption) ?_ | refine br_c (fun _ => ?_) (fun _ => ?_) | refine ⟨by decide, ?_⟩ | refine ⟨by first | assumption | (unfold vp_in; decide) | ((with_reducible (refine vp_in_nI ?_ ?_)) <;> omega), ?_⟩ | fail)
  have F4 : ScMY 0 S1 (up (up S2 25 30 (pcI (shaK set hers n 0 K 0 1))) 25 31 (laterK (shaK set hers n 0 K))) := ((ScMY.fr F2).tr (ScMY.put (by unfold scrM; omega))).tr (ScMY.put (by unfold scrM; omega))
  have k4 : KeptM 2 (up (up S2 25 30 (pcI (shaK set hers n 0 K 0 1))) 25 31 (laterK (shaK set hers n 0 K))) S := ((k1.fr F2).put (by omega)).put (by omega)
  have R4 := R3.o (a := 25) (j := 31) (v := laterK (shaK set hers n 0 K)) (by unfold inM; omega)
  have e30 : up (up S2 25 30 (pcI (shaK set hers n 0 K 0 1))) 25 31 (laterK (shaK set hers n 0 K)) 25 30 = pcI (shaK set hers n 0 K 0 1) := by rw [up_j (by omega), up_at]
  have e31 : up (up S2 25 30 (pcI (shaK set hers n 0 K 0 1))) 25 31 (laterK (shaK set hers n 0 K)) 25 31 = laterK (shaK set hers n 0 K) := up_at
  generalize up (up S2 25 30 _) 25 31 _ = S4 at F4 k4 R4 e30 e31 ⊢
  refine X5_forgets H k4 (fun S5 b1 b2 => ?_)
  have s5 : ScM 0 S S5 := back (by omega) f1 F4 (by rw [R4.st, R.st, shaK_s]) b1 b2
  repeat' (first | (refine Rules.st H okX5_shares [] ?_; (conv => whnf); try (show T _ _ _ [_, _, _, _] _ _)) | refine br_t (by first | decide | assumption) ?_ | refine br_f (by first | decide | assumption) ?_ | refine br_c (fun _ => ?_) (fun _ => ?_) | refine ⟨by decide, ?_⟩ | refine ⟨by first | assumption | (unfold vp_in; decide) | ((with_reducible (refine vp_in_nI ?_ ?_)) <;> omega), ?_⟩ | fail)
  exact h1 S5 s5 (by rw [b2 25 30 (by unfold inP; omega) (by omega), e30]) (by rw [b2 25 31 (by unfold inP; omega) (by omega), e31])
def bsN (b : Bst) : Int32 := match b with
  | none => -9
  | some (a, _, _) => a
def bsD (b : Bst) : Int32 := match b with
  | none => 0
  | some (_, d, _) => d
def bsT (b : Bst) : Int32 := match b with
  | none => 0
  | some (_, _, t) => t
set_option maxRecDepth 100000 in
theorem bsA_eq {b : Bst} (h : ¬ b = none) (w : Int32) : bsA w b = if w = 0 then bsN b else if w = 1 then bsD b else bsT b := by
  cases b with
  | none => exact absurd rfl h
  | some b => rfl
set_option maxRecDepth 100000 in
theorem share_tail {K : Mem} {n D : Nat} (hD : D < 256) {b : Bst} : ∀ (k i : Nat), D < i → i + k ≤ 256 → shareK K n (nI D) k i b = b
  | 0, _, _, _ => rfl
  | k + 1, i, h1, h2 => by
    unfold shareK
    rw [if_neg (fun z => by have := sub_le (by omega) hD z; omega)]
    exact share_tail hD k (i + 1) (by omega) (by omega)
set_option maxRecDepth 100000 in
theorem share_y {K : Mem} {n D i k : Nat} {b : Bst} (h8 : n ≤ 8) (h : nI i &&& (nI D ^^^ (-1)) = 0) : shareK K n (nI D) (k + 1) i b = shareK K n (nI D) k (i + 1) (offB b (nI i) (pcI (shaK (nI D) (nI i) n 0 K 0 1)) (laterK (shaK (nI D) (nI i) n 0 K))) := by
  have e := sha_eq (set := nI D) (his := nI D &&& (nI i ^^^ (-1))) (hers := nI i) (n := n) h8 (fun j hj => share_bits h (by omega)) n 0 K (by omega)
  rw [e]
  exact congrArg _ (if_pos h)
set_option maxRecDepth 100000 in
theorem share_n {K : Mem} {n D i k : Nat} {b : Bst} (h : ¬ nI i &&& (nI D ^^^ (-1)) = 0) : shareK K n (nI D) (k + 1) i b = shareK K n (nI D) k (i + 1) b := congrArg _ (if_neg h)
set_option maxRecDepth 100000 in
theorem X5_share_l (H : Rules C T) {S K : Mem} {n D e : Nat} (X : XM S K n) (he : D + 1 + e = 2 ^ n) {w : Int32} (hw : w = 0 ∨ w = 1 ∨ w = 2) {Q : Pst} : ∀ (k i : Nat) (b : Bst) (S1 : Mem), i + k = D + 1 → (i = 0 ∨ ¬ b = none) → (∀ a, b = some a → ¬ a.1 < 0) → ScM 0 S S1 → (∀ S2, ScM 0 S S2 → Q (some (.int (bsA w (shareK K n (nI D) (k + e) i b)))) S2) → T mX5_share Q 53 [some (.ref 25), some (.int (nI D)), some (.int w), some (.int 0), some (.int (bsN b)), some (.int (bsD b)), some (.int (bsT b)), some (.int (nI i))] [] S1 := by
  obtain ⟨⟨d, R⟩, g, hz⟩ := X
  have h8 := g.2.1
  have h256 := pow8 h8
  intro k
  induction k with
  | zero =>
    intro i b S1 hi hb hp s1 h1
    have hge : nI D < nI i := nI_lt (by omega) (by omega)
    have h1 := h1 S1 s1
    rw [Nat.zero_add, share_tail (by omega) e i (by omega) (by omega), bsA_eq (hb.resolve_left (by omega))] at h1
    rcases hw with rfl | rfl | rfl
    · skip
      repeat' (first | (refine Rules.st H okX5_share [53] ?_; (conv => whnf); try (show T _ _ _ [_, _, _, _, _, _, _, _] _ _)) | refine br_t (by first | decide | assumption) ?_ | refine br_f (by first | decide | assumption) ?_ | refine br_c (fun _ => ?_) (fun _ => ?_) | refine ⟨by decide, ?_⟩ | refine ⟨by first | assumption | (unfold vp_in; decide) | ((with_reducible (refine vp_in_nI ?_ ?_)) <;> omega), ?_⟩ | fail)
      exact h1
    · skip
      repeat' (first | (refine Rules.st H okX5_share [53] ?_; (conv => whnf); try (show T _ _ _ [_, _, _, _, _, _, _, _] _ _)) | refine br_t (by first | decide | assumption) ?_ | refine br_f (by first | decide | assumption) ?_ | refine br_c (fun _ => ?_) (fun _ => ?_) | refine ⟨by decide, ?_⟩ | refine ⟨by first | assumption | (unfold vp_in; decide) | ((with_reducible (refine vp_in_nI ?_ ?_)) <;> omega), ?_⟩ | fail)
      exact h1
    · skip
      repeat' (first | (refine Rules.st H okX5_share [53] ?_; (conv => whnf); try (show T _ _ _ [_, _, _, _, _, _, _, _] _ _)) | refine br_t (by first | decide | assumption) ?_ | refine br_f (by first | decide | assumption) ?_ | refine br_c (fun _ => ?_) (fun _ => ?_) | refine ⟨by decide, ?_⟩ | refine ⟨by first | assumption | (unfold vp_in; decide) | ((with_reducible (refine vp_in_nI ?_ ?_)) <;> omega), ?_⟩ | fail)
      exact h1
  | succ k ih =>
    intro i b S1 hi hb hp s1 h1
    have hge : ¬ nI D < nI i := Int32.not_lt.mpr (nI_le (by omega) (by omega))
    rw [Nat.add_right_comm] at h1
    obtain ⟨d1, R1⟩ := s1.rep R
    by_cases q : nI i &&& (nI D ^^^ (-1)) = 0
    · rw [share_y h8 q] at h1
      skip
      repeat' (first | (refine Rules.st H okX5_share [53] ?_; (conv => whnf); try (show T _ _ _ [_, _, _, _, _, _, _, _] _ _)) | refine br_t (by first | decide | assumption) ?_ | refine br_f (by first | decide | assumption) ?_ | refine br_c (fun _ => ?_) (fun _ => ?_) | refine ⟨by decide, ?_⟩ | refine ⟨by first | assumption | (unfold vp_in; decide) | ((with_reducible (refine vp_in_nI ?_ ?_)) <;> omega), ?_⟩ | fail)
      refine X5_shares H R1 g (fun S2 s2 e30 e31 => ?_)
      rw [← e30, ← e31] at h1
      have nx : ∀ b' : Bst, offB b (nI i) (S2 25 30) (S2 25 31) = b' → (∀ a, b' = some a → ¬ a.1 < 0) → ¬ b' = none → T mX5_share Q 53 [some (.ref 25), some (.int (nI D)), some (.int w), some (.int 0), some (.int (bsN b')), some (.int (bsD b')), some (.int (bsT b')), some (.int (nI i + 1))] [] S2 := fun b' eb hb' hn => by
        rw [nI_1]
        exact ih (i + 1) b' S2 (by omega) (Or.inr hn) hb' (s1.tr s2) (fun S3 s3 => by rw [← eb]; exact h1 S3 s3)
      have tk := fun e => nx (some (nI i, S2 25 30, S2 25 31)) e (fun a ha => by cases ha; exact nI_pos (by omega)) (fun z => by cases z)
      cases b with
      | none =>
        have p : bsN none < 0 := by decide
        repeat' (first | (refine Rules.st H okX5_share [53] ?_; (conv => whnf); try (show T _ _ _ [_, _, _, _, _, _, _, _] _ _)) | refine br_t (by first | decide | assumption) ?_ | refine br_f (by first | decide | assumption) ?_ | refine br_c (fun _ => ?_) (fun _ => ?_) | refine ⟨by decide, ?_⟩ | refine ⟨by first | assumption | (unfold vp_in; decide) | ((with_reducible (refine vp_in_nI ?_ ?_)) <;> omega), ?_⟩ | fail)
        exact Halt.mk (tk rfl)
      | some b =>
        obtain ⟨b0, d0, t0⟩ := b
        have p : ¬ bsN (some (b0, d0, t0)) < 0 := hp _ rfl
        have ky := fun e => nx (some (b0, d0, t0)) e hp (fun z => by cases z)
        by_cases c1 : S2 25 30 < bsD (some (b0, d0, t0))
        · have c1' : S2 25 30 < d0 := c1
          repeat' (first | (refine Rules.st H okX5_share [53] ?_; (conv => whnf); try (show T _ _ _ [_, _, _, _, _, _, _, _] _ _)) | refine br_t (by first | decide | assumption) ?_ | refine br_f (by first | decide | assumption) ?_ | refine br_c (fun _ => ?_) (fun _ => ?_) | refine ⟨by decide, ?_⟩ | refine ⟨by first | assumption | (unfold vp_in; decide) | ((with_reducible (refine vp_in_nI ?_ ?_)) <;> omega), ?_⟩ | fail)
          exact Halt.mk (ky (if_neg (fun z => z.elim (fun z => Int32.lt_irrefl (Int32.lt_trans c1' z)) (fun z => by rw [z.1] at c1'; exact Int32.lt_irrefl c1'))))
        · by_cases c2 : S2 25 30 = bsD (some (b0, d0, t0))
          · have c2' : S2 25 30 = d0 := c2
            by_cases c3 : S2 25 31 < bsT (some (b0, d0, t0))
            · repeat' (first | (refine Rules.st H okX5_share [53] ?_; (conv => whnf); try (show T _ _ _ [_, _, _, _, _, _, _, _] _ _)) | refine br_t (by first | decide | assumption) ?_ | refine br_f (by first | decide | assumption) ?_ | refine br_c (fun _ => ?_) (fun _ => ?_) | refine ⟨by decide, ?_⟩ | refine ⟨by first | assumption | (unfold vp_in; decide) | ((with_reducible (refine vp_in_nI ?_ ?_)) <;> omega), ?_⟩ | fail)
              exact Halt.mk (tk (if_pos (Or.inr ⟨c2', c3⟩)))
            · repeat' (first | (refine Rules.st H okX5_share [53] ?_; (conv => whnf); try (show T _ _ _ [_, _, _, _, _, _, _, _] _ _)) | refine br_t (by first | decide | assumption) ?_ | refine br_f (by first | decide | assumption) ?_ | refine br_c (fun _ => ?_) (fun _ => ?_) | refine ⟨by decide, ?_⟩ | refine ⟨by first | assumption | (unfold vp_in; decide) | ((with_reducible (refine vp_in_nI ?_ ?_)) <;> omega), ?_⟩ | fail)
              exact Halt.mk (ky (if_neg (fun z => z.elim (fun z => by rw [c2'] at z; exact Int32.lt_irrefl z) (fun z => c3 z.2))))
          · have c2' : d0 < S2 25 30 := Int32.lt_of_le_of_ne (Int32.not_lt.mp c1) (fun z => c2 z.symm)
            repeat' (first | (refine Rules.st H okX5_share [53] ?_; (conv => whnf); try (show T _ _ _ [_, _, _, _, _, _, _, _] _ _)) | refine br_t (by first | decide | assumption) ?_ | refine br_f (by first | decide | assumption) ?_ | refine br_c (fun _ => ?_) (fun _ => ?_) | refine ⟨by decide, ?_⟩ | refine ⟨by first | assumption | (unfold vp_in; decide) | ((with_reducible (refine vp_in_nI ?_ ?_)) <;> omega), ?_⟩ | fail)
            exact Halt.mk (tk (if_pos (Or.inl c2')))
    · rw [share_n q] at h1
      have hb2 : ¬ b = none := hb.elim (fun z => absurd (by rw [z]; show (0 : Int32) &&& _ = 0; simp) q) id
      skip
      repeat' (first | (refine Rules.st H okX5_share [53] ?_; (conv => whnf); try (show T _ _ _ [_, _, _, _, _, _, _, _] _ _)) | refine br_t (by first | decide | assumption) ?_ | refine br_f (by first | decide | assumption) ?_ | refine br_c (fun _ => ?_) (fun _ => ?_) | refine ⟨by decide, ?_⟩ | refine ⟨by first | assumption | (unfold vp_in; decide) | ((with_reducible (refine vp_in_nI ?_ ?_)) <;> omega), ?_⟩ | fail)
      refine Halt.mk ?_
      rw [nI_1]
      exact ih (i + 1) b S1 (by omega) (Or.inr hb2) hp s1 h1
set_option maxRecDepth 100000 in
theorem smod_n : ∀ n, n < 9 → ((nI n &&& 31).toBitVec.smod 32).toNat = n := by decide
set_option maxRecDepth 100000 in
theorem setF_3 {n : Nat} (h8 : n ≤ 8) (x : Int32) : (x < 0 → setF n x = -4) ∧ (¬ x < 0 → nI (2 ^ n - 1) < x → setF n x = -6) ∧ (¬ x < 0 → ¬ nI (2 ^ n - 1) < x → setF n x = 0 ∧ ∃ D, D < 2 ^ n ∧ x = nI D) := by
  have h256 := pow8 h8
  have hp : 0 < 2 ^ n := Nat.pow_pos (by omega)
  unfold setF
  refine ⟨fun h => if_pos h, fun h h2 => ?_, fun h h2 => ?_⟩
  · obtain ⟨j, hj, rfl⟩ := nI_of h
    rw [if_neg h, if_neg]
    rw [pk_shrN hj _ n (smod_n n (by omega))]
    rw [nI_ltI (by omega) hj] at h2
    intro z
    have := (nI_eq (a := j / 2 ^ n) (b := 0) (Nat.lt_of_le_of_lt (Nat.div_le_self _ _) hj) (by omega)).mp z
    have h3 := Nat.div_eq_zero_iff.mp this
    omega
  · obtain ⟨j, hj, rfl⟩ := nI_of h
    rw [nI_ltI (by omega) hj] at h2
    refine ⟨?_, j, by omega, rfl⟩
    rw [if_neg h, if_pos]
    rw [pk_shrN hj _ n (smod_n n (by omega)), Nat.div_eq_of_lt (by omega)]
    rfl
set_option maxRecDepth 100000 in
theorem bd_n : ∀ n, n < 9 → (1 : Int32) <<< (nI n &&& 31) - 1 = nI (2 ^ n - 1) := by decide
set_option maxRecDepth 100000 in
theorem X5_share (H : Rules C T) {S K : Mem} {n : Nat} (X : XM S K n) {set w : Int32} {Q : Pst} (h1 : AnsM S (F_share K n set w) Q) : C mX5_share [.ref 25, .int set, .int w] S Q := by
  have X0 := X
  obtain ⟨⟨d, R⟩, g, hz⟩ := X
  have h8 := g.2.1
  obtain ⟨f4, f6, f0⟩ := setF_3 h8 set
  unfold F_share at h1
  refine Rules.go H (by decide) (Nat.le_of_ble_eq_true rfl) ?_
  repeat' (first | (refine Rules.st H okX5_share [53] ?_; (conv => whnf); try (show T _ _ _ [_, _, _, _, _, _, _, _] _ _)) | refine br_t (by first | decide | assumption) ?_ | refine br_f (by first | decide | assumption) ?_ | refine br_c (fun _ => ?_) (fun _ => ?_) | refine ⟨by decide, ?_⟩ | refine ⟨by first | assumption | (unfold vp_in; decide) | ((with_reducible (refine vp_in_nI ?_ ?_)) <;> omega), ?_⟩ | fail)
  rw [R.rm.trans g.1, bd_n n (by omega)]
  refine X5_bound H (fun q3 => ?_) (fun q3 q4 => ?_) (fun q3 q4 => ?_)
  · rw [f4 q3, if_neg (by decide)] at h1
    repeat' (first | (refine Rules.st H okX5_share [53] ?_; (conv => whnf); try (show T _ _ _ [_, _, _, _, _, _, _, _] _ _)) | refine br_t (by first | decide | assumption) ?_ | refine br_f (by first | decide | assumption) ?_ | refine br_c (fun _ => ?_) (fun _ => ?_) | refine ⟨by decide, ?_⟩ | refine ⟨by first | assumption | (unfold vp_in; decide) | ((with_reducible (refine vp_in_nI ?_ ?_)) <;> omega), ?_⟩ | fail)
    refine X5_no H ScM.rf (k := 4) (by omega) (by omega) (by decide) (fun S' hS' => ?_)
    repeat' (first | (refine Rules.st H okX5_share [53] ?_; (conv => whnf); try (show T _ _ _ [_, _, _, _, _, _, _, _] _ _)) | refine br_t (by first | decide | assumption) ?_ | refine br_f (by first | decide | assumption) ?_ | refine br_c (fun _ => ?_) (fun _ => ?_) | refine ⟨by decide, ?_⟩ | refine ⟨by first | assumption | (unfold vp_in; decide) | ((with_reducible (refine vp_in_nI ?_ ?_)) <;> omega), ?_⟩ | fail)
    exact h1 S' hS'
  · rw [f6 q3 q4, if_neg (by decide)] at h1
    repeat' (first | (refine Rules.st H okX5_share [53] ?_; (conv => whnf); try (show T _ _ _ [_, _, _, _, _, _, _, _] _ _)) | refine br_t (by first | decide | assumption) ?_ | refine br_f (by first | decide | assumption) ?_ | refine br_c (fun _ => ?_) (fun _ => ?_) | refine ⟨by decide, ?_⟩ | refine ⟨by first | assumption | (unfold vp_in; decide) | ((with_reducible (refine vp_in_nI ?_ ?_)) <;> omega), ?_⟩ | fail)
    refine X5_no H ScM.rf (k := 6) (by omega) (by omega) (by decide) (fun S' hS' => ?_)
    repeat' (first | (refine Rules.st H okX5_share [53] ?_; (conv => whnf); try (show T _ _ _ [_, _, _, _, _, _, _, _] _ _)) | refine br_t (by first | decide | assumption) ?_ | refine br_f (by first | decide | assumption) ?_ | refine br_c (fun _ => ?_) (fun _ => ?_) | refine ⟨by decide, ?_⟩ | refine ⟨by first | assumption | (unfold vp_in; decide) | ((with_reducible (refine vp_in_nI ?_ ?_)) <;> omega), ?_⟩ | fail)
    exact h1 S' hS'
  · obtain ⟨e0, D, hD, rfl⟩ := f0 q3 q4
    rw [e0, if_pos rfl] at h1
    repeat' (first | (refine Rules.st H okX5_share [53] ?_; (conv => whnf); try (show T _ _ _ [_, _, _, _, _, _, _, _] _ _)) | refine br_t (by first | decide | assumption) ?_ | refine br_f (by first | decide | assumption) ?_ | refine br_c (fun _ => ?_) (fun _ => ?_) | refine ⟨by decide, ?_⟩ | refine ⟨by first | assumption | (unfold vp_in; decide) | ((with_reducible (refine vp_in_nI ?_ ?_)) <;> omega), ?_⟩ | fail)
    refine X5_isIn H (fun p1 p2 => ?_) (fun p0 => ?_)
    · rw [if_neg (w2y p1 p2)] at h1
      repeat' (first | (refine Rules.st H okX5_share [53] ?_; (conv => whnf); try (show T _ _ _ [_, _, _, _, _, _, _, _] _ _)) | refine br_t (by first | decide | assumption) ?_ | refine br_f (by first | decide | assumption) ?_ | refine br_c (fun _ => ?_) (fun _ => ?_) | refine ⟨by decide, ?_⟩ | refine ⟨by first | assumption | (unfold vp_in; decide) | ((with_reducible (refine vp_in_nI ?_ ?_)) <;> omega), ?_⟩ | fail)
      refine Halt.mk ?_
      refine X5_share_l H (e := 2 ^ n - D - 1) X0 (by omega) (w3 p1 p2) (D + 1) 0 none S (by omega) (Or.inl rfl) (fun a z => by cases z) ScM.rf (fun S2 s2 => ?_)
      rw [show D + 1 + (2 ^ n - D - 1) = 2 ^ n by omega]
      exact h1 S2 s2
    · rw [if_pos (w2n p0)] at h1
      repeat' (first | (refine Rules.st H okX5_share [53] ?_; (conv => whnf); try (show T _ _ _ [_, _, _, _, _, _, _, _] _ _)) | refine br_t (by first | decide | assumption) ?_ | refine br_f (by first | decide | assumption) ?_ | refine br_c (fun _ => ?_) (fun _ => ?_) | refine ⟨by decide, ?_⟩ | refine ⟨by first | assumption | (unfold vp_in; decide) | ((with_reducible (refine vp_in_nI ?_ ?_)) <;> omega), ?_⟩ | fail)
      refine X5_no H ScM.rf (k := 2) (by omega) (by omega) (by decide) (fun S' hS' => ?_)
      repeat' (first | (refine Rules.st H okX5_share [53] ?_; (conv => whnf); try (show T _ _ _ [_, _, _, _, _, _, _, _] _ _)) | refine br_t (by first | decide | assumption) ?_ | refine br_f (by first | decide | assumption) ?_ | refine br_c (fun _ => ?_) (fun _ => ?_) | refine ⟨by decide, ?_⟩ | refine ⟨by first | assumption | (unfold vp_in; decide) | ((with_reducible (refine vp_in_nI ?_ ?_)) <;> omega), ?_⟩ | fail)
      exact h1 S' hS'
end M36
