section M38
variable {C : Cst} {T : Nat → Pst → Nat → Lcs → List Value → Mem → Prop}
/-- the told rooms as the reference lists them -/
def LSM (S : Mem) (ls : List Nat) (l : Nat) : Prop := S 25 28 = nI l ∧ ∀ j, j < l → S 40 j = nI (gN ls j)
set_option maxRecDepth 100000 in
theorem LSM.of {S S' : Mem} {ls : List Nat} {l : Nat} (h : LSM S ls l) (h1 : S' 25 28 = S 25 28) (h2 : ∀ j, S' 40 j = S 40 j) : LSM S' ls l := ⟨h1.trans h.1, fun j hj => (h2 j).trans (h.2 j hj)⟩
set_option maxRecDepth 100000 in
theorem LSM.frM {S S' : Mem} {ls : List Nat} {l : Nat} (h : LSM S ls l) (F : FrM S S') : LSM S' ls l := h.of (F 25 28 (by unfold inM; omega)) (fun j => F 40 j (by unfold inM; omega))
set_option maxRecDepth 100000 in
theorem LSM.frP {w : Nat} {S S' : Mem} {ls : List Nat} {l : Nat} (h : LSM S ls l) (F : FrP w S S') : LSM S' ls l := h.of (F 25 28 (by omega) (by omega)) (fun j => F 40 j (by omega) (by omega))
set_option maxRecDepth 100000 in
theorem X5_lists_l (H : Rules C T) {S K : Mem} {d : Int32} {n : Nat} (R : RepM S K d) (g : Gd K n) {set : Int32} (h5 : (listS set n).length ≤ 5) {Q : Pst} : ∀ (k i : Nat) (S1 : Mem), i + k = n → LSM S1 (listS set i) (listS set i).length → ScM 0 S S1 → (∀ S', LSM S' (listS set n) (listS set n).length → ScM 0 S S' → Q none S') → T mX5_lists Q 7 [some (.ref 25), some (.int set), some (.int (nI i))] [] S1 := by
  have h8 := g.2.1
  intro k
  induction k with
  | zero =>
    intro i S1 hi L s1 h1
    have hge : S1 25 8 ≤ nI i := by
      rw [s1.at (by unfold scrM; omega), R.rm, g.1]
      exact nI_le (by omega) (by omega)
    rw [show i = n by omega] at L
    have h1 := h1 S1 L s1
    skip
    repeat' (first | (refine Rules.st H okX5_lists [7] ?_; (conv => whnf); try (show T _ _ _ [_, _, _] _ _)) | refine br_t (by first | decide | assumption) ?_ | refine br_f (by first | decide | assumption) ?_ | refine br_c (fun _ => ?_) (fun _ => ?_) | refine ⟨by decide, ?_⟩ | refine ⟨by first | assumption | (unfold vp_in; decide) | ((with_reducible (refine vp_in_nI ?_ ?_)) <;> omega), ?_⟩ | fail)
    exact h1
  | succ k ih =>
    intro i S1 hi L s1 h1
    have hge : ¬ S1 25 8 ≤ nI i := by
      rw [s1.at (by unfold scrM; omega), R.rm, g.1]
      exact nI_ge (by omega) (by omega)
    have hm1 := listS_mono set (n - (i + 1)) (i + 1)
    rw [show i + 1 + (n - (i + 1)) = n by omega] at hm1
    skip
    repeat' (first | (refine Rules.st H okX5_lists [7] ?_; (conv => whnf); try (show T _ _ _ [_, _, _] _ _)) | refine br_t (by first | decide | assumption) ?_ | refine br_f (by first | decide | assumption) ?_ | refine br_c (fun _ => ?_) (fun _ => ?_) | refine ⟨by decide, ?_⟩ | refine ⟨by first | assumption | (unfold vp_in; decide) | ((with_reducible (refine vp_in_nI ?_ ?_)) <;> omega), ?_⟩ | fail)
    refine X5_has H (fun q => ?_) (fun q => ?_)
    · have e : listS set (i + 1) = listS set i ++ [i] := by rw [listS_succ, if_neg (bt_10 q)]
      have hlen : (listS set (i + 1)).length = (listS set i).length + 1 := by rw [e, List.length_append]; rfl
      have c2 : (listS set i).length < 5 := by omega
      have hv : vp_in (S1 25 28) 5 := by rw [L.1]; exact vp_in_nI c2 (by omega)
      have key : T mX5_lists Q 7 [some (.ref 25), some (.int set), some (.int (nI i + 1))] [] (up (up S1 40 (S1 25 28).toNatClampNeg (nI i)) 25 28 (up S1 40 (S1 25 28).toNatClampNeg (nI i) 25 28 + 1)) := by
        rw [up_k (by omega), L.1, nIc (by omega), nI_1, nI_1, ← hlen]
        refine ih (i + 1) _ (by omega) ⟨up_at, fun j hj => ?_⟩ (s1.tr (ScM.puts (a := 40) (by unfold scrM; omega) (ScM.puts (a := 25) (by unfold scrM; omega) ScM.rf))) h1
        rw [up_k (by omega), e]
        unfold gN
        rw [List.getD_eq_getElem?_getD]
        by_cases hj2 : j = (listS set i).length
        · rw [hj2, up_at, List.getElem?_append_right (by omega)]
          simp
        · rw [up_j hj2, List.getElem?_append_left (by omega), ← List.getD_eq_getElem?_getD]
          exact L.2 j (by omega)
      repeat' (first | (refine Rules.st H okX5_lists [7] ?_; (conv => whnf); try (show T _ _ _ [_, _, _] _ _)) | refine br_t (by first | decide | assumption) ?_ | refine br_f (by first | decide | assumption) ?_ | refine br_c (fun _ => ?_) (fun _ => ?_) | refine ⟨by decide, ?_⟩ | refine ⟨by first | assumption | (unfold vp_in; decide) | ((with_reducible (refine vp_in_nI ?_ ?_)) <;> omega), ?_⟩ | fail)
      exact Halt.mk key
    · have e : listS set (i + 1) = listS set i := by rw [listS_succ, if_pos (bt_n1 q), List.append_nil]
      repeat' (first | (refine Rules.st H okX5_lists [7] ?_; (conv => whnf); try (show T _ _ _ [_, _, _] _ _)) | refine br_t (by first | decide | assumption) ?_ | refine br_f (by first | decide | assumption) ?_ | refine br_c (fun _ => ?_) (fun _ => ?_) | refine ⟨by decide, ?_⟩ | refine ⟨by first | assumption | (unfold vp_in; decide) | ((with_reducible (refine vp_in_nI ?_ ?_)) <;> omega), ?_⟩ | fail)
      refine Halt.mk ?_
      rw [nI_1]
      exact ih (i + 1) S1 (by omega) (by rw [e]; exact L) s1 h1
set_option maxRecDepth 100000 in
theorem X5_lists (H : Rules C T) {S K : Mem} {d : Int32} {n : Nat} (R : RepM S K d) (g : Gd K n) {set : Int32} (h5 : (listS set n).length ≤ 5) {Q : Pst} (h1 : ∀ S', LSM S' (listS set n) (listS set n).length → ScM 0 S S' → Q none S') : C mX5_lists [.ref 25, .int set] S Q := by
  refine Rules.go H (by decide) (Nat.le_of_ble_eq_true rfl) ?_
  repeat' (first | (refine Rules.st H okX5_lists [7] ?_; (conv => whnf); try (show T _ _ _ [_, _, _] _ _)) | refine br_t (by first | decide | assumption) ?_ | refine br_f (by first | decide | assumption) ?_ | refine br_c (fun _ => ?_) (fun _ => ?_) | refine ⟨by decide, ?_⟩ | refine ⟨by first | assumption | (unfold vp_in; decide) | ((with_reducible (refine vp_in_nI ?_ ?_)) <;> omega), ?_⟩ | fail)
  refine Halt.mk ?_
  exact X5_lists_l H R g h5 n 0 (up S 25 28 0) (by omega) ⟨up_at, fun j hj => by simp [listS] at hj⟩ (ScM.puts (by unfold scrM; omega) ScM.rf) h1
set_option maxRecDepth 100000 in
theorem X5_codes_l (H : Rules C T) {S : Mem} {l : Nat} (e : S 25 28 = nI l) (h5 : l ≤ 5) {Q : Pst} (h1 : Q (some (.int (nI (l ^ l)))) S) : ∀ (k i : Nat), i + k = l → T mX5_codes Q 4 [some (.ref 25), some (.int (nI (l ^ i))), some (.int (nI i))] [] S := by
  intro k
  induction k with
  | zero =>
    intro i hi
    have hge : S 25 28 ≤ nI i := by rw [e]; exact nI_le (by omega) (by omega)
    rw [show l ^ l = l ^ i by rw [show l = i by omega]] at h1
    skip
    repeat' (first | (refine Rules.st H okX5_codes [4] ?_; (conv => whnf); try (show T _ _ _ [_, _, _] _ _)) | refine br_t (by first | decide | assumption) ?_ | refine br_f (by first | decide | assumption) ?_ | refine br_c (fun _ => ?_) (fun _ => ?_) | refine ⟨by decide, ?_⟩ | refine ⟨by first | assumption | (unfold vp_in; decide) | ((with_reducible (refine vp_in_nI ?_ ?_)) <;> omega), ?_⟩ | fail)
    exact h1
  | succ k ih =>
    intro i hi
    have hge : ¬ S 25 28 ≤ nI i := by rw [e]; exact nI_ge (by omega) (by omega)
    have key := ih (i + 1) (by omega)
    rw [Nat.pow_succ, ← nI_mul, ← e, ← nI_1] at key
    skip
    repeat' (first | (refine Rules.st H okX5_codes [4] ?_; (conv => whnf); try (show T _ _ _ [_, _, _] _ _)) | refine br_t (by first | decide | assumption) ?_ | refine br_f (by first | decide | assumption) ?_ | refine br_c (fun _ => ?_) (fun _ => ?_) | refine ⟨by decide, ?_⟩ | refine ⟨by first | assumption | (unfold vp_in; decide) | ((with_reducible (refine vp_in_nI ?_ ?_)) <;> omega), ?_⟩ | fail)
    exact Halt.mk key
set_option maxRecDepth 100000 in
theorem X5_codes (H : Rules C T) {S : Mem} {l : Nat} (e : S 25 28 = nI l) (h5 : l ≤ 5) {Q : Pst} (h1 : Q (some (.int (nI (l ^ l)))) S) : C mX5_codes [.ref 25] S Q := by
  refine Rules.go H (by decide) (Nat.le_of_ble_eq_true rfl) ?_
  repeat' (first | (refine Rules.st H okX5_codes [4] ?_; (conv => whnf); try (show T _ _ _ [_, _, _] _ _)) | refine br_t (by first | decide | assumption) ?_ | refine br_f (by first | decide | assumption) ?_ | refine br_c (fun _ => ?_) (fun _ => ?_) | refine ⟨by decide, ?_⟩ | refine ⟨by first | assumption | (unfold vp_in; decide) | ((with_reducible (refine vp_in_nI ?_ ?_)) <;> omega), ?_⟩ | fail)
  exact Halt.mk (X5_codes_l H e h5 h1 l 0 (by omega))
set_option maxRecDepth 100000 in
theorem nI_or (a b : Nat) : nI a ||| nI b = nI (a ||| b) := by
  apply Int32.toBitVec_inj.mp
  apply BitVec.eq_of_toNat_eq
  rw [Int32.toBitVec_or, BitVec.toNat_or]
  show (a % 2 ^ 32) ||| (b % 2 ^ 32) = (a ||| b) % 2 ^ 32
  exact (Nat.or_mod_two_pow (a := a) (b := b) (n := 32)).symm
set_option maxRecDepth 100000 in
theorem seenN_lt {l c : Nat} (h0 : 0 < l) : ∀ k, seenN l c k < 2 ^ l
  | 0 => Nat.pow_pos (by omega)
  | k + 1 => by
    unfold seenN
    exact Nat.or_lt_two_pow (seenN_lt h0 k) (Nat.pow_lt_pow_right (by omega) (Nat.mod_lt _ h0))
set_option maxRecDepth 100000 in
theorem irm_n {a d : Nat} (ha : a < 2 ^ 31) (h0 : 0 < d) (hd : d < 2 ^ 31) : irm (nI a) (nI d) = nI (a % d) := pk_rem ha h0 hd
def ordN (ls : List Nat) (l c : Nat) : Nat := match ndB l c with
  | true => vN ls l c l
  | false => 0
set_option maxRecDepth 100000 in
theorem p5 {l : Nat} (h5 : l ≤ 5) : l ^ l ≤ 3125 := by
  rcases (show l = 0 ∨ l = 1 ∨ l = 2 ∨ l = 3 ∨ l = 4 ∨ l = 5 by omega) with rfl | rfl | rfl | rfl | rfl | rfl <;> decide
set_option maxRecDepth 100000 in
theorem X5_orderOf_l (H : Rules C T) {S : Mem} {ls : List Nat} {l c : Nat} (L : LSM S ls l) (h0 : 0 < l) (h5 : l ≤ 5) (hl : ∀ a, a < l → gN ls a < 8) (hc : c < l ^ l) {Q : Pst} (h1 : Q (some (.int (nI (ordN ls l c)))) S) : ∀ (k i : Nat), i + k = l → T mX5_orderOf Q 13 [some (.ref 25), some (.int (nI c)), some (.int (nI (c / l ^ i))), some (.int (nI (seenN l c i))), some (.int (nI (vN ls l c i))), some (.int (nI (10 ^ i))), some (.int (nI i))] [] S := by
  have hp5 := p5 h5
  have e28 := L.1
  intro k
  induction k with
  | zero =>
    intro i hi
    have hge : S 25 28 ≤ nI i := by rw [e28]; exact nI_le (by omega) (by omega)
    have hs := seenN_lt (c := c) h0 l
    have pp := pop_t l (by omega) _ hs
    rw [show i = l by omega] at hge ⊢
    unfold ordN at h1
    cases hn : ndB l c with
    | true =>
      rw [hn] at h1
      have hb : nI (popN (seenN l c l)) = S 25 28 := by
        rw [e28]
        congr 1
        exact Nat.eq_of_beq_eq_true hn
      skip
      repeat' (first | (refine Rules.st H okX5_orderOf [13] ?_; (conv => whnf); try (show T _ _ _ [_, _, _, _, _, _, _] _ _)) | refine br_t (by first | decide | assumption) ?_ | refine br_f (by first | decide | assumption) ?_ | refine br_c (fun _ => ?_) (fun _ => ?_) | refine ⟨by decide, ?_⟩ | refine ⟨by first | assumption | (unfold vp_in; decide) | ((with_reducible (refine vp_in_nI ?_ ?_)) <;> omega), ?_⟩ | fail)
      refine X5_bits H (n := l) (by omega) ⟨_, hs, rfl⟩ ?_
      rw [pp.1]
      repeat' (first | (refine Rules.st H okX5_orderOf [13] ?_; (conv => whnf); try (show T _ _ _ [_, _, _, _, _, _, _] _ _)) | refine br_t (by first | decide | assumption) ?_ | refine br_f (by first | decide | assumption) ?_ | refine br_c (fun _ => ?_) (fun _ => ?_) | refine ⟨by decide, ?_⟩ | refine ⟨by first | assumption | (unfold vp_in; decide) | ((with_reducible (refine vp_in_nI ?_ ?_)) <;> omega), ?_⟩ | fail)
      exact h1
    | false =>
      rw [hn] at h1
      have hb : ¬ nI (popN (seenN l c l)) = S 25 28 := fun z => by
        rw [e28, nI_eq (by omega) (by omega)] at z
        unfold ndB at hn
        rw [z] at hn
        exact absurd hn (by rw [Nat.beq_refl]; decide)
      skip
      repeat' (first | (refine Rules.st H okX5_orderOf [13] ?_; (conv => whnf); try (show T _ _ _ [_, _, _, _, _, _, _] _ _)) | refine br_t (by first | decide | assumption) ?_ | refine br_f (by first | decide | assumption) ?_ | refine br_c (fun _ => ?_) (fun _ => ?_) | refine ⟨by decide, ?_⟩ | refine ⟨by first | assumption | (unfold vp_in; decide) | ((with_reducible (refine vp_in_nI ?_ ?_)) <;> omega), ?_⟩ | fail)
      refine X5_bits H (n := l) (by omega) ⟨_, hs, rfl⟩ ?_
      rw [pp.1]
      repeat' (first | (refine Rules.st H okX5_orderOf [13] ?_; (conv => whnf); try (show T _ _ _ [_, _, _, _, _, _, _] _ _)) | refine br_t (by first | decide | assumption) ?_ | refine br_f (by first | decide | assumption) ?_ | refine br_c (fun _ => ?_) (fun _ => ?_) | refine ⟨by decide, ?_⟩ | refine ⟨by first | assumption | (unfold vp_in; decide) | ((with_reducible (refine vp_in_nI ?_ ?_)) <;> omega), ?_⟩ | fail)
      exact h1
  | succ k ih =>
    intro i hi
    have hge : ¬ S 25 28 ≤ nI i := by rw [e28]; exact nI_ge (by omega) (by omega)
    have hd0 : ¬ S 25 28 = 0 := by rw [e28]; exact fun z => by have := (nI_eq (a := l) (b := 0) (by omega) (by omega)).mp z; omega
    have hcr : c / l ^ i < 2 ^ 31 := Nat.lt_of_le_of_lt (Nat.div_le_self _ _) (by omega)
    have hx := Nat.mod_lt (c / l ^ i) h0
    have er : irm (nI (c / l ^ i)) (S 25 28) = nI (c / l ^ i % l) := by rw [e28]; exact irm_n hcr h0 (by omega)
    have hv : vp_in (irm (nI (c / l ^ i)) (S 25 28)) 5 := by rw [er]; exact vp_in_nI (by omega) (by omega)
    have key := ih (i + 1) (by omega)
    rw [show c / l ^ (i + 1) = c / l ^ i / l from by rw [Nat.pow_succ, Nat.div_div_eq_div_mul], show seenN l c (i + 1) = seenN l c i ||| 2 ^ (c / l ^ i % l) from rfl, show vN ls l c (i + 1) = vN ls l c i + 10 ^ i * (gN ls (c / l ^ i % l) + 1) from rfl, show 10 ^ (i + 1) = 10 ^ i * 10 from Nat.pow_succ _ _, ← pk_div hcr h0 (by omega), ← nI_or, ← nI_pw _ (by omega), ← nI_add, ← nI_mul, ← nI_mul, ← nI_1 (gN ls (c / l ^ i % l)), ← nI_1 i, ← L.2 _ hx] at key
    rw [show S 40 (c / l ^ i % l) = S 40 (irm (nI (c / l ^ i)) (S 25 28)).toNatClampNeg from by rw [er, nIc (by omega)], ← er, ← e28] at key
    skip
    repeat' (first | (refine Rules.st H okX5_orderOf [13] ?_; (conv => whnf); try (show T _ _ _ [_, _, _, _, _, _, _] _ _)) | refine br_t (by first | decide | assumption) ?_ | refine br_f (by first | decide | assumption) ?_ | refine br_c (fun _ => ?_) (fun _ => ?_) | refine ⟨by decide, ?_⟩ | refine ⟨by first | assumption | (unfold vp_in; decide) | ((with_reducible (refine vp_in_nI ?_ ?_)) <;> omega), ?_⟩ | fail)
    exact Halt.mk key
set_option maxRecDepth 100000 in
theorem X5_orderOf (H : Rules C T) {S : Mem} {ls : List Nat} {l c : Nat} (L : LSM S ls l) (h0 : 0 < l) (h5 : l ≤ 5) (hl : ∀ a, a < l → gN ls a < 8) (hc : c < l ^ l) {Q : Pst} (h1 : Q (some (.int (nI (ordN ls l c)))) S) : C mX5_orderOf [.ref 25, .int (nI c)] S Q := by
  have key := X5_orderOf_l H L h0 h5 hl hc h1 l 0 (by omega)
  rw [Nat.pow_zero, Nat.div_one] at key
  refine Rules.go H (by decide) (Nat.le_of_ble_eq_true rfl) ?_
  repeat' (first | (refine Rules.st H okX5_orderOf [13] ?_; (conv => whnf); try (show T _ _ _ [_, _, _, _, _, _, _] _ _)) | refine br_t (by first | decide | assumption) ?_ | refine br_f (by first | decide | assumption) ?_ | refine br_c (fun _ => ?_) (fun _ => ?_) | refine ⟨by decide, ?_⟩ | refine ⟨by first | assumption | (unfold vp_in; decide) | ((with_reducible (refine vp_in_nI ?_ ?_)) <;> omega), ?_⟩ | fail)
  exact Halt.mk key
set_option maxRecDepth 100000 in
theorem X5_om_1 (H : Rules C T) {S : Mem} {l : Nat} (e : S 25 28 = nI l) (h5 : l ≤ 5) {m N w : Int32} {Q : Pst} (h1 : T mX5_orderMinutes Q 39 [some (.ref 25), some (.int m), some (.int N), some (.int w), some (.int (nI (10 ^ (l - 1)))), some (.int (nI l))] [] S) : ∀ (k i : Nat), 1 ≤ i → i + k = l → T mX5_orderMinutes Q 17 [some (.ref 25), some (.int m), some (.int N), some (.int w), some (.int (nI (10 ^ (i - 1)))), some (.int (nI i))] [] S := by
  intro k
  induction k with
  | zero =>
    intro i h0 hi
    have hge : S 25 28 ≤ nI i := by rw [e]; exact nI_le (by omega) (by omega)
    rw [show l = i by omega] at h1
    skip
    repeat' (first | (refine Rules.st H okX5_orderMinutes [17, 39] ?_; (conv => whnf); try (show T _ _ _ [_, _, _, _, _, _] _ _)) | refine br_t (by first | decide | assumption) ?_ | refine br_f (by first | decide | assumption) ?_ | refine br_c (fun _ => ?_) (fun _ => ?_) | refine ⟨by decide, ?_⟩ | refine ⟨by first | assumption | (unfold vp_in; decide) | ((with_reducible (refine vp_in_nI ?_ ?_)) <;> omega), ?_⟩ | fail)
    exact Halt.mk h1
  | succ k ih =>
    intro i h0 hi
    have hge : ¬ S 25 28 ≤ nI i := by rw [e]; exact nI_ge (by omega) (by omega)
    have key := ih (i + 1) (by omega) (by omega)
    rw [show i + 1 - 1 = (i - 1) + 1 by omega, Nat.pow_succ, ← nI_mul, ← nI_1 i] at key
    skip
    repeat' (first | (refine Rules.st H okX5_orderMinutes [17, 39] ?_; (conv => whnf); try (show T _ _ _ [_, _, _, _, _, _] _ _)) | refine br_t (by first | decide | assumption) ?_ | refine br_f (by first | decide | assumption) ?_ | refine br_c (fun _ => ?_) (fun _ => ?_) | refine ⟨by decide, ?_⟩ | refine ⟨by first | assumption | (unfold vp_in; decide) | ((with_reducible (refine vp_in_nI ?_ ?_)) <;> omega), ?_⟩ | fail)
    exact Halt.mk key
set_option maxRecDepth 100000 in
theorem X5_om_2 (H : Rules C T) {n m l c : Nat} {d w : Int32} {ls : List Nat} (hm : m < 2) (h0 : 0 < l) (h5 : l ≤ 5) (hl : ∀ a, a < l → gN ls a < n) (h8 : n ≤ 8) {Q : Pst} : ∀ (k i : Nat) (S K : Mem), i + k = l → RepM S K d → Gd K n → S 25 28 = nI l → (∀ S', RepM S' (visJ m ls (dgs l c l) k i K) d → Gd (visJ m ls (dgs l c l) k i K) n → FrM S S' → T mX5_orderMinutes Q 79 [some (.ref 25), some (.int (nI m)), some (.int (nI (vN ls l c l))), some (.int w), some (.int (nI (10 ^ (l - 1) / 10 ^ l))), some (.int (nI l))] [] S') → T mX5_orderMinutes Q 42 [some (.ref 25), some (.int (nI m)), some (.int (nI (vN ls l c l))), some (.int w), some (.int (nI (10 ^ (l - 1) / 10 ^ i))), some (.int (nI i))] [] S := by
  have hN : vN ls l c l < 2 ^ 31 := Nat.lt_of_lt_of_le (vN_lt h0 (fun a ha => by have := hl a ha; omega) l) (Nat.le_trans (Nat.pow_le_pow_right (n := 10) (by omega) h5) (by omega))
  have hU : ∀ i, 10 ^ (l - 1) / 10 ^ i < 2 ^ 31 := fun i => Nat.lt_of_le_of_lt (Nat.div_le_self _ _) (Nat.lt_of_le_of_lt (Nat.pow_le_pow_right (n := 10) (by omega) (show l - 1 ≤ 5 by omega)) (by omega))
  intro k
  induction k with
  | zero =>
    intro i S K hi R g e h1
    have hge : S 25 28 ≤ nI i := by rw [e]; exact nI_le (by omega) (by omega)
    have h1 := h1 S R g FrM.rf
    have ei : l = i := by omega
    rw [show nI (10 ^ (l - 1) / 10 ^ l) = nI (10 ^ (l - 1) / 10 ^ i) by rw [ei], show nI l = nI i by rw [ei]] at h1
    skip
    repeat' (first | (refine Rules.st H okX5_orderMinutes [42, 79] ?_; (conv => whnf); try (show T _ _ _ [_, _, _, _, _, _] _ _)) | refine br_t (by first | decide | assumption) ?_ | refine br_f (by first | decide | assumption) ?_ | refine br_c (fun _ => ?_) (fun _ => ?_) | refine ⟨by decide, ?_⟩ | refine ⟨by first | assumption | (unfold vp_in; decide) | ((with_reducible (refine vp_in_nI ?_ ?_)) <;> omega), ?_⟩ | fail)
    exact Halt.mk h1
  | succ k ih =>
    intro i S K hi R g e h1
    have hge : ¬ S 25 28 ≤ nI i := by rw [e]; exact nI_ge (by omega) (by omega)
    have eU : 10 ^ (l - 1) / 10 ^ i = 10 ^ (l - 1 - i) := Nat.pow_div (by omega) (by omega)
    have pU : 0 < 10 ^ (l - 1) / 10 ^ i := by rw [eU]; exact Nat.pow_pos (by omega)
    have hU0 : ¬ nI (10 ^ (l - 1) / 10 ^ i) = 0 := fun z => by
      have := (nI_eq (b := 0) (hU i) (by omega)).mp z
      omega
    have dg := vN_dg (c := c) h0 (fun a ha => by have := hl a ha; omega) l (l - 1 - i) (by omega) (ls := ls)
    have hx := hl (c / l ^ (l - 1 - i) % l) (Nat.mod_lt _ h0)
    have ev : irm (nI (vN ls l c l) / nI (10 ^ (l - 1) / 10 ^ i)) 10 - 1 = nI (gN ls (c / l ^ (l - 1 - i) % l)) := by
      rw [pk_div hN pU (hU i), show (10 : Int32) = nI 10 from rfl, irm_n (Nat.lt_of_le_of_lt (Nat.div_le_self _ _) hN) (by omega) (by omega), eU, dg, ← nI_1]
      exact Int32.add_sub_cancel _ _
    have h1 : ∀ S', RepM S' (visJ m ls (dgs l c l) k (i + 1) (visitK K m (gN ls (c / l ^ (l - 1 - i) % l))).2) d → Gd (visJ m ls (dgs l c l) k (i + 1) (visitK K m (gN ls (c / l ^ (l - 1 - i) % l))).2) n → FrM S S' → T mX5_orderMinutes Q 79 [some (.ref 25), some (.int (nI m)), some (.int (nI (vN ls l c l))), some (.int w), some (.int (nI (10 ^ (l - 1) / 10 ^ l))), some (.int (nI l))] [] S' := by
      unfold visJ at h1
      rw [gN_dgs l c l i (by omega)] at h1
      exact h1
    skip
    repeat' (first | (refine Rules.st H okX5_orderMinutes [42, 79] ?_; (conv => whnf); try (show T _ _ _ [_, _, _, _, _, _] _ _)) | refine br_t (by first | decide | assumption) ?_ | refine br_f (by first | decide | assumption) ?_ | refine br_c (fun _ => ?_) (fun _ => ?_) | refine ⟨by decide, ?_⟩ | refine ⟨by first | assumption | (unfold vp_in; decide) | ((with_reducible (refine vp_in_nI ?_ ?_)) <;> omega), ?_⟩ | fail)
    rw [ev]
    refine X5_visit H R g hm hx (fun S1 R1 F1 => ?_)
    repeat' (first | (refine Rules.st H okX5_orderMinutes [42, 79] ?_; (conv => whnf); try (show T _ _ _ [_, _, _, _, _, _] _ _)) | refine br_t (by first | decide | assumption) ?_ | refine br_f (by first | decide | assumption) ?_ | refine br_c (fun _ => ?_) (fun _ => ?_) | refine ⟨by decide, ?_⟩ | refine ⟨by first | assumption | (unfold vp_in; decide) | ((with_reducible (refine vp_in_nI ?_ ?_)) <;> omega), ?_⟩ | fail)
    refine Halt.mk ?_
    rw [nI_1, show (10 : Int32) = nI 10 from rfl, pk_div (hU i) (by omega) (by omega), Nat.div_div_eq_div_mul, show 10 ^ i * 10 = 10 ^ (i + 1) from (Nat.pow_succ _ _).symm]
    exact ih (i + 1) S1 _ (by omega) R1 (g.visit hx) (by rw [F1 25 28 (by unfold inM; omega)]; exact e) (fun S' R' G' F' => h1 S' R' G' (F1.tr F'))
set_option maxRecDepth 100000 in
theorem visJ_s (m : Nat) (ls s : List Nat) : ∀ (k j : Nat) (K : Mem), visJ m ls s k j K 0 3 = K 0 3
  | 0, _, _ => rfl
  | k + 1, j, K => by
    unfold visJ
    rw [visJ_s, visitK_s]
set_option maxRecDepth 100000 in
theorem X5_orderMinutes (H : Rules C T) {S K : Mem} {d : Int32} {n m l c : Nat} {ls : List Nat} (hm : m < 2) (h0 : 0 < l) (h5 : l ≤ 5) (hl : ∀ a, a < l → gN ls a < n) (R : RepM S K d) (g : Gd K n) (L : LSM S ls l) {Q : Pst} (h1 : ∀ S', ScM 0 S S' → LSM S' ls l → S' 25 29 = pcI (visJ m ls (dgs l c l) l 0 K 0 1) → Q (some (.int (visJ m ls (dgs l c l) l 0 K 5 m - K 5 m))) S') : C mX5_orderMinutes [.ref 25, .int (nI m), .int (nI (vN ls l c l))] S Q := by
  have h8 := g.2.1
  have cm : (nI m).toNatClampNeg = m := nIc (by omega)
  refine Rules.go H (by decide) (Nat.le_of_ble_eq_true rfl) ?_
  repeat' (first | (refine Rules.st H okX5_orderMinutes [17] ?_; (conv => whnf); try (show T _ _ _ [_, _, _, _, _, _] _ _)) | refine br_t (by first | decide | assumption) ?_ | refine br_f (by first | decide | assumption) ?_ | refine br_c (fun _ => ?_) (fun _ => ?_) | refine ⟨by decide, ?_⟩ | refine ⟨by first | assumption | (unfold vp_in; decide) | ((with_reducible (refine vp_in_nI ?_ ?_)) <;> omega), ?_⟩ | fail)
  refine X5_minds H (fun S1 k1 f1 => ?_)
  have R1 := R.frP f1
  have L1 := L.frP f1
  repeat' (first | (refine Rules.st H okX5_orderMinutes [17] ?_; (conv => whnf); try (show T _ _ _ [_, _, _, _, _, _] _ _)) | refine br_t (by first | decide | assumption) ?_ | refine br_f (by first | decide | assumption) ?_ | refine br_c (fun _ => ?_) (fun _ => ?_) | refine ⟨by decide, ?_⟩ | refine ⟨by first | assumption | (unfold vp_in; decide) | ((with_reducible (refine vp_in_nI ?_ ?_)) <;> omega), ?_⟩ | fail)
  rw [cm, R1.ck hm]
  refine Halt.mk ?_
  refine X5_om_1 H L1.1 h5 ?_ (l - 1) 1 (by omega) (by omega)
  skip
  repeat' (first | (refine Rules.st H okX5_orderMinutes [42] ?_; (conv => whnf); try (show T _ _ _ [_, _, _, _, _, _] _ _)) | refine br_t (by first | decide | assumption) ?_ | refine br_f (by first | decide | assumption) ?_ | refine br_c (fun _ => ?_) (fun _ => ?_) | refine ⟨by decide, ?_⟩ | refine ⟨by first | assumption | (unfold vp_in; decide) | ((with_reducible (refine vp_in_nI ?_ ?_)) <;> omega), ?_⟩ | fail)
  refine Halt.mk ?_
  have key := X5_om_2 H (c := c) (w := K 5 m) (Q := Q) hm h0 h5 hl h8 l 0 S1 K (by omega) R1 g L1.1 (fun S2 R2 G2 F2 => ?_)
  · rw [Nat.pow_zero, Nat.div_one] at key
    exact key
  · have e33 : S2 33 (nI m).toNatClampNeg = visJ m ls (dgs l c l) l 0 K 5 m := by rw [cm]; exact R2.ck hm
    skip
    repeat' (first | (refine Rules.st H okX5_orderMinutes [] ?_; (conv => whnf); try (show T _ _ _ [_, _, _, _, _, _] _ _)) | refine br_t (by first | decide | assumption) ?_ | refine br_f (by first | decide | assumption) ?_ | refine br_c (fun _ => ?_) (fun _ => ?_) | refine ⟨by decide, ?_⟩ | refine ⟨by first | assumption | (unfold vp_in; decide) | ((with_reducible (refine vp_in_nI ?_ ?_)) <;> omega), ?_⟩ | fail)
    rw [e33]
    refine X5_manyDone H R2 G2 ?_
    repeat' (first | (refine Rules.st H okX5_orderMinutes [] ?_; (conv => whnf); try (show T _ _ _ [_, _, _, _, _, _] _ _)) | refine br_t (by first | decide | assumption) ?_ | refine br_f (by first | decide | assumption) ?_ | refine br_c (fun _ => ?_) (fun _ => ?_) | refine ⟨by decide, ?_⟩ | refine ⟨by first | assumption | (unfold vp_in; decide) | ((with_reducible (refine vp_in_nI ?_ ?_)) <;> omega), ?_⟩ | fail)
    have F4 : ScMY 0 S1 (up S2 25 29 (pcI (visJ m ls (dgs l c l) l 0 K 0 1))) := (ScMY.fr F2).tr (ScMY.put (by unfold scrM; omega))
    have k4 : KeptM 2 (up S2 25 29 (pcI (visJ m ls (dgs l c l) l 0 K 0 1))) S := (k1.fr F2).put (by omega)
    have R4 := R2.o (a := 25) (j := 29) (v := pcI (visJ m ls (dgs l c l) l 0 K 0 1)) (by unfold inM; omega)
    have e29 : up S2 25 29 (pcI (visJ m ls (dgs l c l) l 0 K 0 1)) 25 29 = pcI (visJ m ls (dgs l c l) l 0 K 0 1) := up_at
    have L4 : LSM (up S2 25 29 (pcI (visJ m ls (dgs l c l) l 0 K 0 1))) ls l := (L1.frM F2).of (up_j (by omega)) (fun j => up_k (by omega))
    generalize up S2 25 29 _ = S4 at F4 k4 R4 e29 L4 ⊢
    refine X5_forgets H k4 (fun S5 b1 b2 => ?_)
    have s5 : ScM 0 S S5 := back (by omega) f1 F4 (by rw [R4.st, R.st, visJ_s]) b1 b2
    repeat' (first | (refine Rules.st H okX5_orderMinutes [] ?_; (conv => whnf); try (show T _ _ _ [_, _, _, _, _, _] _ _)) | refine br_t (by first | decide | assumption) ?_ | refine br_f (by first | decide | assumption) ?_ | refine br_c (fun _ => ?_) (fun _ => ?_) | refine ⟨by decide, ?_⟩ | refine ⟨by first | assumption | (unfold vp_in; decide) | ((with_reducible (refine vp_in_nI ?_ ?_)) <;> omega), ?_⟩ | fail)
    exact h1 S5 s5 (L4.of (b2 25 28 (by unfold inP; omega) (by omega)) (fun j => b2 40 j (by unfold inP; omega) (by omega))) (by rw [b2 25 29 (by unfold inP; omega) (by omega), e29])
end M38
