section CORR4
variable {C : Cst} {T : Nat → Pst → Nat → Lcs → List Value → Mem → Prop}
def visitK (K : Mem) (m r : Nat) : Int32 × Mem := knockK (walkK K m (r + 1)) m r (workK (walkK K m (r + 1)) r)
set_option maxRecDepth 100000 in
theorem X1_visitBy (H : Rules C T) {c : Nat} (hc : isC c) {S K : Mem} (R : RepC c S K) {m : Nat} (hm : m < 2) {r : Nat} (hr : r < 8) {Q : Pst} (h1 : ∀ S', RepC c S' (visitK K m r).2 → Fr c (c + 5) S S' → Q (some (.int (visitK K m r).1)) S') : C mX1_visitBy [.ref c, .int (nI m), .int (nI r)] S Q := by
  have hc0 := hc
  rcases hc with rfl | rfl | rfl <;>
  · refine Rules.go H (by decide) (Nat.le_of_ble_eq_true rfl) ?_
    repeat' (first | (refine Rules.st H okX1_visitBy [] ?_; conv => whnf) | refine br_t (by first | decide | assumption) ?_ | refine br_f (by first | decide | assumption) ?_ | refine br_c (fun _ => ?_) (fun _ => ?_) | refine ⟨by decide, ?_⟩ | refine ⟨by first | assumption | (unfold vp_in; decide) | ((with_reducible (refine vp_in_nI ?_ ?_)) <;> omega), ?_⟩ | fail)
    rw [nI_1]
    refine X1_walkTo H hc0 R hm (fun S1 R1 F1 => ?_)
    repeat' (first | (refine Rules.st H okX1_visitBy [] ?_; conv => whnf) | refine br_t (by first | decide | assumption) ?_ | refine br_f (by first | decide | assumption) ?_ | refine br_c (fun _ => ?_) (fun _ => ?_) | refine ⟨by decide, ?_⟩ | refine ⟨by first | assumption | (unfold vp_in; decide) | ((with_reducible (refine vp_in_nI ?_ ?_)) <;> omega), ?_⟩ | fail)
    refine X1_workOf H hc0 R1 hr ?_
    repeat' (first | (refine Rules.st H okX1_visitBy [] ?_; conv => whnf) | refine br_t (by first | decide | assumption) ?_ | refine br_f (by first | decide | assumption) ?_ | refine br_c (fun _ => ?_) (fun _ => ?_) | refine ⟨by decide, ?_⟩ | refine ⟨by first | assumption | (unfold vp_in; decide) | ((with_reducible (refine vp_in_nI ?_ ?_)) <;> omega), ?_⟩ | fail)
    refine X1_knock H hc0 R1 hm hr (fun S2 R2 F2 => ?_)
    repeat' (first | (refine Rules.st H okX1_visitBy [] ?_; conv => whnf) | refine br_t (by first | decide | assumption) ?_ | refine br_f (by first | decide | assumption) ?_ | refine br_c (fun _ => ?_) (fun _ => ?_) | refine ⟨by decide, ?_⟩ | refine ⟨by first | assumption | (unfold vp_in; decide) | ((with_reducible (refine vp_in_nI ?_ ?_)) <;> omega), ?_⟩ | fail)
    exact h1 S2 R2 (F1.tr F2)
def bothK (K : Mem) (r : Nat) : Int32 × Mem :=
  let K1 := walkK (walkK K 0 (r + 1)) 1 (r + 1)
  let K2 := up K1 5 0 (laterK K1)
  let v := knockK K2 0 r (workK K2 r / 2 + 1)
  (v.1, up v.2 5 1 (v.2 5 0))
set_option maxRecDepth 100000 in
theorem X1_visitByBoth (H : Rules C T) {c : Nat} (hc : isC c) {S K : Mem} (R : RepC c S K) {r : Nat} (hr : r < 8) {Q : Pst} (h1 : ∀ S', RepC c S' (bothK K r).2 → Fr c (c + 5) S S' → Q (some (.int (bothK K r).1)) S') : C mX1_visitByBoth [.ref c, .int (nI r)] S Q := by
  have hc0 := hc
  rcases hc with rfl | rfl | rfl <;>
  · refine Rules.go H (by decide) (Nat.le_of_ble_eq_true rfl) ?_
    repeat' (first | (refine Rules.st H okX1_visitByBoth [] ?_; conv => whnf) | refine br_t (by first | decide | assumption) ?_ | refine br_f (by first | decide | assumption) ?_ | refine br_c (fun _ => ?_) (fun _ => ?_) | refine ⟨by decide, ?_⟩ | refine ⟨by first | assumption | (unfold vp_in; decide) | ((with_reducible (refine vp_in_nI ?_ ?_)) <;> omega), ?_⟩ | fail)
    rw [nI_1]
    refine X1_walkTo H hc0 R (m := 0) (by omega) (fun S1 R1 F1 => ?_)
    repeat' (first | (refine Rules.st H okX1_visitByBoth [] ?_; conv => whnf) | refine br_t (by first | decide | assumption) ?_ | refine br_f (by first | decide | assumption) ?_ | refine br_c (fun _ => ?_) (fun _ => ?_) | refine ⟨by decide, ?_⟩ | refine ⟨by first | assumption | (unfold vp_in; decide) | ((with_reducible (refine vp_in_nI ?_ ?_)) <;> omega), ?_⟩ | fail)
    rw [nI_1]
    refine X1_walkTo H hc0 R1 (m := 1) (by omega) (fun S2 R2 F2 => ?_)
    repeat' (first | (refine Rules.st H okX1_visitByBoth [] ?_; conv => whnf) | refine br_t (by first | decide | assumption) ?_ | refine br_f (by first | decide | assumption) ?_ | refine br_c (fun _ => ?_) (fun _ => ?_) | refine ⟨by decide, ?_⟩ | refine ⟨by first | assumption | (unfold vp_in; decide) | ((with_reducible (refine vp_in_nI ?_ ?_)) <;> omega), ?_⟩ | fail)
    refine X1_laterClock H hc0 R2 ?_
    repeat' (first | (refine Rules.st H okX1_visitByBoth [] ?_; conv => whnf) | refine br_t (by first | decide | assumption) ?_ | refine br_f (by first | decide | assumption) ?_ | refine br_c (fun _ => ?_) (fun _ => ?_) | refine ⟨by decide, ?_⟩ | refine ⟨by first | assumption | (unfold vp_in; decide) | ((with_reducible (refine vp_in_nI ?_ ?_)) <;> omega), ?_⟩ | fail)
    refine X1_setClock H hc0 R2 (r := 0) (by omega) (fun S3 R3 F3 => ?_)
    repeat' (first | (refine Rules.st H okX1_visitByBoth [] ?_; conv => whnf) | refine br_t (by first | decide | assumption) ?_ | refine br_f (by first | decide | assumption) ?_ | refine br_c (fun _ => ?_) (fun _ => ?_) | refine ⟨by decide, ?_⟩ | refine ⟨by first | assumption | (unfold vp_in; decide) | ((with_reducible (refine vp_in_nI ?_ ?_)) <;> omega), ?_⟩ | fail)
    refine X1_workOf H hc0 R3 hr ?_
    repeat' (first | (refine Rules.st H okX1_visitByBoth [] ?_; conv => whnf) | refine br_t (by first | decide | assumption) ?_ | refine br_f (by first | decide | assumption) ?_ | refine br_c (fun _ => ?_) (fun _ => ?_) | refine ⟨by decide, ?_⟩ | refine ⟨by first | assumption | (unfold vp_in; decide) | ((with_reducible (refine vp_in_nI ?_ ?_)) <;> omega), ?_⟩ | fail)
    refine X1_knock H hc0 R3 (m := 0) (by omega) hr (fun S4 R4 F4 => ?_)
    repeat' (first | (refine Rules.st H okX1_visitByBoth [] ?_; conv => whnf) | refine br_t (by first | decide | assumption) ?_ | refine br_f (by first | decide | assumption) ?_ | refine br_c (fun _ => ?_) (fun _ => ?_) | refine ⟨by decide, ?_⟩ | refine ⟨by first | assumption | (unfold vp_in; decide) | ((with_reducible (refine vp_in_nI ?_ ?_)) <;> omega), ?_⟩ | fail)
    refine X1_clockOf H hc0 R4 (r := 0) (by omega) ?_
    repeat' (first | (refine Rules.st H okX1_visitByBoth [] ?_; conv => whnf) | refine br_t (by first | decide | assumption) ?_ | refine br_f (by first | decide | assumption) ?_ | refine br_c (fun _ => ?_) (fun _ => ?_) | refine ⟨by decide, ?_⟩ | refine ⟨by first | assumption | (unfold vp_in; decide) | ((with_reducible (refine vp_in_nI ?_ ?_)) <;> omega), ?_⟩ | fail)
    refine X1_setClock H hc0 R4 (r := 1) (by omega) (fun S5 R5 F5 => ?_)
    repeat' (first | (refine Rules.st H okX1_visitByBoth [] ?_; conv => whnf) | refine br_t (by first | decide | assumption) ?_ | refine br_f (by first | decide | assumption) ?_ | refine br_c (fun _ => ?_) (fun _ => ?_) | refine ⟨by decide, ?_⟩ | refine ⟨by first | assumption | (unfold vp_in; decide) | ((with_reducible (refine vp_in_nI ?_ ?_)) <;> omega), ?_⟩ | fail)
    exact h1 S5 R5 ((((F1.tr F2).tr F3).tr F4).tr F5)
set_option maxRecDepth 100000 in
theorem passK_n (K : Mem) (m : Nat) (x : Int32) : passK K m x 0 0 = K 0 0 := by simp [passK, up]
set_option maxRecDepth 100000 in
theorem walkK_n (K : Mem) (m p : Nat) : walkK K m p 0 0 = K 0 0 := by simp [walkK, passK, up]
set_option maxRecDepth 100000 in
theorem fetchK_n (K : Mem) (m : Nat) : fetchK K m 0 0 = K 0 0 := by simp [fetchK, passK, up]
set_option maxRecDepth 100000 in
theorem cleanK_n (K : Mem) (m r : Nat) (w : Int32) : cleanK K m r w 0 0 = K 0 0 := by simp [cleanK, passK, up]
set_option maxRecDepth 100000 in
theorem knockK_n (K : Mem) (m r : Nat) (w : Int32) : (knockK K m r w).2 0 0 = K 0 0 := by
  unfold knockK
  dsimp only
  repeat' split
  all_goals simp only [cleanK_n, fetchK_n, passK_n]
set_option maxRecDepth 100000 in
theorem visitK_n (K : Mem) (m r : Nat) : (visitK K m r).2 0 0 = K 0 0 := by
  unfold visitK
  rw [knockK_n, walkK_n]
set_option maxRecDepth 100000 in
theorem bothK_n (K : Mem) (r : Nat) : (bothK K r).2 0 0 = K 0 0 := by
  unfold bothK
  dsimp only
  rw [up_k (by omega), knockK_n, up_k (by omega), walkK_n, walkK_n]
def roundK (m : Nat) (set : Int32) : Nat → Nat → Mem → Mem
  | 0, _, K => K
  | k + 1, i, K => roundK m set k (i + 1) (if bt set i = 0 then K else (visitK K m i).2)
set_option maxRecDepth 100000 in
theorem roundK_n (m : Nat) (set : Int32) : ∀ (k i : Nat) (K : Mem), roundK m set k i K 0 0 = K 0 0
  | 0, _, _ => rfl
  | k + 1, i, K => by
    unfold roundK
    rw [roundK_n]
    split
    · rfl
    · exact visitK_n K m i
set_option maxRecDepth 100000 in
theorem X1_roundOver_l (H : Rules C T) {c : Nat} (hc : isC c) {n : Nat} (hn8 : n ≤ 8) {m : Nat} (hm : m < 2) {set : Int32} {Q : Pst} : ∀ (k i : Nat) (S K : Mem), i + k = n → RepC c S K → K 0 0 = nI n → (∀ S', RepC c S' (roundK m set k i K) → Fr c (c + 5) S S' → Q none S') → T mX1_roundOver Q 2 [some (.ref c), some (.int (nI m)), some (.int set), some (.int (nI i))] [] S := by
  intro k
  induction k with
  | zero =>
    intro i S K hi R hn h1
    have hge : S (c + 0) 0 ≤ nI i := by rw [R 0 0 (by simp [inr]), hn]; exact nI_le (by omega) (by omega)
    rcases hc with rfl | rfl | rfl <;>
    · skip
      repeat' (first | (refine Rules.st H okX1_roundOver [2] ?_; conv => whnf) | refine br_t (by first | decide | assumption) ?_ | refine br_f (by first | decide | assumption) ?_ | refine br_c (fun _ => ?_) (fun _ => ?_) | refine ⟨by decide, ?_⟩ | refine ⟨by first | assumption | (unfold vp_in; decide) | ((with_reducible (refine vp_in_nI ?_ ?_)) <;> omega), ?_⟩ | fail)
      exact h1 S R Fr.rf
  | succ k ih =>
    intro i S K hi R hn h1
    have hge : ¬ S (c + 0) 0 ≤ nI i := by rw [R 0 0 (by simp [inr]), hn]; exact nI_ge (by omega) (by omega)
    have hc0 := hc
    unfold roundK at h1
    rcases hc with rfl | rfl | rfl <;>
    · skip
      repeat' (first | (refine Rules.st H okX1_roundOver [2] ?_; conv => whnf) | refine br_t (by first | decide | assumption) ?_ | refine br_f (by first | decide | assumption) ?_ | refine br_c (fun _ => ?_) (fun _ => ?_) | refine ⟨by decide, ?_⟩ | refine ⟨by first | assumption | (unfold vp_in; decide) | ((with_reducible (refine vp_in_nI ?_ ?_)) <;> omega), ?_⟩ | fail)
      · rw [if_pos (by assumption)] at h1
        refine Halt.mk ?_
        show T mX1_roundOver Q 2 [some (.ref _), some (.int (nI m)), some (.int set), some (.int (nI i + 1))] [] _
        rw [nI_1]
        exact ih (i + 1) S K (by omega) R hn h1
      · rw [if_neg (by assumption)] at h1
        refine X1_visitBy H hc0 R hm (by omega) (fun S1 R1 F1 => ?_)
        repeat' (first | (refine Rules.st H okX1_roundOver [2] ?_; conv => whnf) | refine br_t (by first | decide | assumption) ?_ | refine br_f (by first | decide | assumption) ?_ | refine br_c (fun _ => ?_) (fun _ => ?_) | refine ⟨by decide, ?_⟩ | refine ⟨by first | assumption | (unfold vp_in; decide) | ((with_reducible (refine vp_in_nI ?_ ?_)) <;> omega), ?_⟩ | fail)
        refine Halt.mk ?_
        show T mX1_roundOver Q 2 [some (.ref _), some (.int (nI m)), some (.int set), some (.int (nI i + 1))] [] _
        rw [nI_1]
        exact ih (i + 1) S1 _ (by omega) R1 ((visitK_n K m i).trans hn) (fun S' R' F' => h1 S' R' (F1.tr F'))
set_option maxRecDepth 100000 in
theorem X1_roundOver (H : Rules C T) {c : Nat} (hc : isC c) {n : Nat} (hn8 : n ≤ 8) {m : Nat} (hm : m < 2) {set : Int32} {S K : Mem} (R : RepC c S K) (hn : K 0 0 = nI n) {Q : Pst} (h1 : ∀ S', RepC c S' (roundK m set n 0 K) → Fr c (c + 5) S S' → Q none S') : C mX1_roundOver [.ref c, .int (nI m), .int set] S Q := by
  have key := X1_roundOver_l H hc hn8 hm (set := set) (Q := Q) n 0 S K (by omega) R hn h1
  refine Rules.go H (by decide) (Nat.le_of_ble_eq_true rfl) ?_
  repeat' (first | (refine Rules.st H okX1_roundOver [2] ?_; conv => whnf) | refine br_t (by first | decide | assumption) ?_ | refine br_f (by first | decide | assumption) ?_ | refine br_c (fun _ => ?_) (fun _ => ?_) | refine ⟨by decide, ?_⟩ | refine ⟨by first | assumption | (unfold vp_in; decide) | ((with_reducible (refine vp_in_nI ?_ ?_)) <;> omega), ?_⟩ | fail)
  exact Halt.mk key
def longK (m n : Nat) (K : Mem) : Mem := roundK m ((1 <<< (nI n &&& 31)) - 1) n 0 K
set_option maxRecDepth 100000 in
theorem X1_longRound (H : Rules C T) {c : Nat} (hc : isC c) {n : Nat} (hn8 : n ≤ 8) {m : Nat} (hm : m < 2) {S K : Mem} (R : RepC c S K) (hn : K 0 0 = nI n) {Q : Pst} (h1 : ∀ S', RepC c S' (longK m n K) → Fr c (c + 5) S S' → Q none S') : C mX1_longRound [.ref c, .int (nI m)] S Q := by
  have hc0 := hc
  unfold longK at h1
  have e : S (c + 0) 0 = nI n := by rw [R 0 0 (by simp [inr]), hn]
  rw [← e] at h1
  rcases hc with rfl | rfl | rfl <;>
  · refine Rules.go H (by decide) (Nat.le_of_ble_eq_true rfl) ?_
    repeat' (first | (refine Rules.st H okX1_longRound [] ?_; conv => whnf) | refine br_t (by first | decide | assumption) ?_ | refine br_f (by first | decide | assumption) ?_ | refine br_c (fun _ => ?_) (fun _ => ?_) | refine ⟨by decide, ?_⟩ | refine ⟨by first | assumption | (unfold vp_in; decide) | ((with_reducible (refine vp_in_nI ?_ ?_)) <;> omega), ?_⟩ | fail)
    exact X1_roundOver H hc0 hn8 hm R hn (fun S' R' F' => by
      repeat' (first | (refine Rules.st H okX1_longRound [] ?_; conv => whnf) | refine br_t (by first | decide | assumption) ?_ | refine br_f (by first | decide | assumption) ?_ | refine br_c (fun _ => ?_) (fun _ => ?_) | refine ⟨by decide, ?_⟩ | refine ⟨by first | assumption | (unfold vp_in; decide) | ((with_reducible (refine vp_in_nI ?_ ?_)) <;> omega), ?_⟩ | fail)
      exact h1 S' R' F')
def tipsK (K : Mem) (set : Int32) : Nat → Nat → Int32 → Int32
  | 0, _, a => a
  | k + 1, i, a => tipsK K set k (i + 1) (if bt set i = 0 then a else a + tipK K i)
set_option maxRecDepth 100000 in
theorem X1_tipsOf_l (H : Rules C T) {c : Nat} (hc : isC c) {n : Nat} (hn8 : n ≤ 8) {set : Int32} {S K : Mem} (R : RepC c S K) (hn : K 0 0 = nI n) {Q : Pst} : ∀ (k i : Nat) (a : Int32), i + k = n → Q (some (.int (tipsK K set k i a))) S → T mX1_tipsOf Q 4 [some (.ref c), some (.int set), some (.int a), some (.int (nI i))] [] S := by
  intro k
  induction k with
  | zero =>
    intro i a hi h1
    have hge : S (c + 0) 0 ≤ nI i := by rw [R 0 0 (by simp [inr]), hn]; exact nI_le (by omega) (by omega)
    rcases hc with rfl | rfl | rfl <;>
    · skip
      repeat' (first | (refine Rules.st H okX1_tipsOf [4] ?_; conv => whnf) | refine br_t (by first | decide | assumption) ?_ | refine br_f (by first | decide | assumption) ?_ | refine br_c (fun _ => ?_) (fun _ => ?_) | refine ⟨by decide, ?_⟩ | refine ⟨by first | assumption | (unfold vp_in; decide) | ((with_reducible (refine vp_in_nI ?_ ?_)) <;> omega), ?_⟩ | fail)
      exact h1
  | succ k ih =>
    intro i a hi h1
    have hge : ¬ S (c + 0) 0 ≤ nI i := by rw [R 0 0 (by simp [inr]), hn]; exact nI_ge (by omega) (by omega)
    have hc0 := hc
    unfold tipsK at h1
    rcases hc with rfl | rfl | rfl <;>
    · skip
      repeat' (first | (refine Rules.st H okX1_tipsOf [4] ?_; conv => whnf) | refine br_t (by first | decide | assumption) ?_ | refine br_f (by first | decide | assumption) ?_ | refine br_c (fun _ => ?_) (fun _ => ?_) | refine ⟨by decide, ?_⟩ | refine ⟨by first | assumption | (unfold vp_in; decide) | ((with_reducible (refine vp_in_nI ?_ ?_)) <;> omega), ?_⟩ | fail)
      · rw [if_pos (by assumption)] at h1
        refine Halt.mk ?_
        show T mX1_tipsOf Q 4 [some (.ref _), some (.int set), some (.int a), some (.int (nI i + 1))] [] _
        rw [nI_1]
        exact ih (i + 1) _ (by omega) h1
      · rw [if_neg (by assumption)] at h1
        refine X1_tipOf H hc0 R (by omega) ?_
        repeat' (first | (refine Rules.st H okX1_tipsOf [4] ?_; conv => whnf) | refine br_t (by first | decide | assumption) ?_ | refine br_f (by first | decide | assumption) ?_ | refine br_c (fun _ => ?_) (fun _ => ?_) | refine ⟨by decide, ?_⟩ | refine ⟨by first | assumption | (unfold vp_in; decide) | ((with_reducible (refine vp_in_nI ?_ ?_)) <;> omega), ?_⟩ | fail)
        refine Halt.mk ?_
        show T mX1_tipsOf Q 4 [some (.ref _), some (.int set), some (.int (a + tipK K i)), some (.int (nI i + 1))] [] _
        rw [nI_1]
        exact ih (i + 1) _ (by omega) h1
set_option maxRecDepth 100000 in
theorem X1_tipsOf (H : Rules C T) {c : Nat} (hc : isC c) {n : Nat} (hn8 : n ≤ 8) {set : Int32} {S K : Mem} (R : RepC c S K) (hn : K 0 0 = nI n) {Q : Pst} (h1 : Q (some (.int (tipsK K set n 0 0))) S) : C mX1_tipsOf [.ref c, .int set] S Q := by
  have key := X1_tipsOf_l H hc hn8 (set := set) R hn (Q := Q) n 0 0 (by omega) h1
  refine Rules.go H (by decide) (Nat.le_of_ble_eq_true rfl) ?_
  repeat' (first | (refine Rules.st H okX1_tipsOf [4] ?_; conv => whnf) | refine br_t (by first | decide | assumption) ?_ | refine br_f (by first | decide | assumption) ?_ | refine br_c (fun _ => ?_) (fun _ => ?_) | refine ⟨by decide, ?_⟩ | refine ⟨by first | assumption | (unfold vp_in; decide) | ((with_reducible (refine vp_in_nI ?_ ?_)) <;> omega), ?_⟩ | fail)
  exact Halt.mk key
def addK (K : Mem) (n : Nat) (k f : Int32) : Mem := up (up (up K 1 n k) 2 n f) 0 0 (K 0 0 + 1)
set_option maxRecDepth 100000 in
theorem X1_addRoom (H : Rules C T) {c : Nat} (hc : isC c) {n : Nat} (hn8 : n ≤ 8) {k f : Int32} {S K : Mem} (R : RepC c S K) (hn : K 0 0 = nI n) {Q : Pst} (h0 : n = 8 → Q (some (.int 0)) S) (h1 : n < 8 → ∀ S', RepC c S' (addK K n k f) → Fr c (c + 5) S S' → Q (some (.int 1)) S') : C mX1_addRoom [.ref c, .int k, .int f] S Q := by
  have hc0 := hc
  have e : S (c + 0) 0 = nI n := by rw [R 0 0 (by simp [inr]), hn]
  have n0 : ¬ S (c + 0) 0 < 0 := by rw [e]; exact nI_pos (by omega)
  have n8 : ¬ S (c + 0) 0 < 8 → n = 8 := fun h => by
    rw [e] at h
    revert h
    simp (disch := omega) only [li0, li1, li2, li3, li4, li5, li6, li7, li8, li9, li10, li11, li12, li13, li14, li15, li16, li17, li18, li19, li20, li60, li96, li99, li255, li999, nI_leI, nI_ltI, nI_eq, nI_1, nI_add]
    omega
  have n9 : S (c + 0) 0 < 8 → n < 8 := fun h => by
    rw [e] at h
    revert h
    simp (disch := omega) only [li0, li1, li2, li3, li4, li5, li6, li7, li8, li9, li10, li11, li12, li13, li14, li15, li16, li17, li18, li19, li20, li60, li96, li99, li255, li999, nI_leI, nI_ltI, nI_eq, nI_1, nI_add]
    omega
  have fin : ∀ S1 S2, n < 8 → Fr c (c + 5) S S1 → RepC c S2 (up (up K 1 n k) 2 n f) → Fr c (c + 5) S1 S2 → Q (some (.int 1)) (up S2 (c + 0) 0 (S2 (c + 0) 0 + 1)) := fun S1 S2 h F1 R2 F2 => by
    have e2 : S2 (c + 0) 0 = K 0 0 := by rw [R2 0 0 (by simp [inr]), up_k (by omega), up_k (by omega)]
    rw [e2]
    exact h1 h _ R2.put ((F1.tr F2).tr (Fr.put (by omega) (by omega)))
  have e1 : ∀ S1, RepC c S1 (up K 1 n k) → S1 (c + 0) 0 = nI n := fun S1 R1 => by
    rw [R1 0 0 (by simp [inr]), up_k (by omega), hn]
  rcases hc with rfl | rfl | rfl <;>
  · refine Rules.go H (by decide) (Nat.le_of_ble_eq_true rfl) ?_
    repeat' (first | (refine Rules.st H okX1_addRoom [] ?_; conv => whnf) | refine br_t (by first | decide | assumption) ?_ | refine br_f (by first | decide | assumption) ?_ | refine br_c (fun _ => ?_) (fun _ => ?_) | refine ⟨by decide, ?_⟩ | refine ⟨by first | assumption | (unfold vp_in; decide) | ((with_reducible (refine vp_in_nI ?_ ?_)) <;> omega), ?_⟩ | fail)
    · have h := n9 (by assumption)
      rw [e]
      refine X1_setKind H hc0 R h (fun S1 R1 F1 => ?_)
      repeat' (first | (refine Rules.st H okX1_addRoom [] ?_; conv => whnf) | refine br_t (by first | decide | assumption) ?_ | refine br_f (by first | decide | assumption) ?_ | refine br_c (fun _ => ?_) (fun _ => ?_) | refine ⟨by decide, ?_⟩ | refine ⟨by first | assumption | (unfold vp_in; decide) | ((with_reducible (refine vp_in_nI ?_ ?_)) <;> omega), ?_⟩ | fail)
      rw [e1 S1 R1]
      refine X1_setFigure H hc0 R1 h (fun S2 R2 F2 => ?_)
      repeat' (first | (refine Rules.st H okX1_addRoom [] ?_; conv => whnf) | refine br_t (by first | decide | assumption) ?_ | refine br_f (by first | decide | assumption) ?_ | refine br_c (fun _ => ?_) (fun _ => ?_) | refine ⟨by decide, ?_⟩ | refine ⟨by first | assumption | (unfold vp_in; decide) | ((with_reducible (refine vp_in_nI ?_ ?_)) <;> omega), ?_⟩ | fail)
      exact fin S1 S2 h F1 R2 F2
    · exact h0 (n8 (by assumption))
/-- what stands of K so far: the numbers, and the first i places of the rows a .. b -/
def ParC (D : Nat → Nat → Prop) (c : Nat) (S K : Mem) : Prop := ∀ o j, inr o j → D o j → S (c + o) j = K o j
set_option maxRecDepth 100000 in
theorem ParC.put {D D' : Nat → Nat → Prop} {c o j : Nat} {S K : Mem} {v : Int32} (h : ParC D c S K) (hv : v = K o j) (hD : ∀ o' j', inr o' j' → D' o' j' → D o' j' ∨ (o' = o ∧ j' = j)) : ParC D' c (up S (c + o) j v) K := by
  intro o' j' hi hd
  show (if c + o' = c + o ∧ j' = j then v else S (c + o') j') = _
  by_cases q : o' = o ∧ j' = j
  · rw [if_pos ⟨by omega, q.2⟩, hv, q.1, q.2]
  · rw [if_neg (fun z => q ⟨by omega, z.2⟩)]
    exact h o' j' hi ((hD o' j' hi hd).resolve_right q)
def pairC (c o : Nat) : Prop := (c = 7 ∧ o = 1) ∨ (c = 1 ∧ o = 7) ∨ (c = 13 ∧ o = 1) ∨ (c = 1 ∧ o = 13)
/-- the rows below r -/
def DR (r : Nat) (o _j : Nat) : Prop := o < r
def DI (r i : Nat) (o j : Nat) : Prop := o < r ∨ (o = r ∧ j < i)
def lenR (r : Nat) : Nat := if r < 3 then 8 else 2
set_option maxRecDepth 100000 in
theorem X1_takeOver_l (H : Rules C T) {c o r : Nat} (hco : pairC c o) (hr : 1 ≤ r ∧ r ≤ 5) {K K' : Mem} (hK : ∀ a j, 1 ≤ a → K' a j = K a j) {Q : Pst} : ∀ (k i : Nat) (S : Mem), i + k = lenR r → RepC o S K → ParC (DI r i) c S K' → (∀ S', ParC (DR (r + 1)) c S' K' → Fr c (c + 5) S S' → Q none S') → T mX1_takeOver Q 2 [some (.ref (c + r)), some (.ref (o + r)), some (.int (nI i))] [] S := by
  intro k
  induction k with
  | zero =>
    intro i S hi Ro Rc h1
    have hR : ParC (DR (r + 1)) c S K' := fun a j hj z => Rc a j hj (by unfold DI; unfold DR at z; unfold lenR at hi; unfold inr at hj; split at hi <;> omega)
    have h2 := h1 S hR Fr.rf
    have hge : nI (lenR r) ≤ nI i := nI_le (by omega) (by unfold lenR at hi; split at hi <;> omega)
    clear hK Ro Rc hR h1
    rcases (show r = 1 ∨ r = 2 ∨ r = 3 ∨ r = 4 ∨ r = 5 by omega) with rfl | rfl | rfl | rfl | rfl <;> rcases hco with ⟨rfl, rfl⟩ | ⟨rfl, rfl⟩ | ⟨rfl, rfl⟩ | ⟨rfl, rfl⟩ <;>
    · skip
      repeat' (first | (refine Rules.st H okX1_takeOver [2] ?_; conv => whnf) | refine br_t (by first | decide | assumption) ?_ | refine br_f (by first | decide | assumption) ?_ | refine br_c (fun _ => ?_) (fun _ => ?_) | refine ⟨by decide, ?_⟩ | refine ⟨by first | assumption | (unfold vp_in; decide) | ((with_reducible (refine vp_in_nI ?_ ?_)) <;> omega), ?_⟩ | fail)
      exact h2
  | succ k ih =>
    intro i S hi Ro Rc h1
    have hl : i < lenR r := by omega
    have hl8 : lenR r ≤ 8 := by unfold lenR; split <;> omega
    have hge : ¬ nI (lenR r) ≤ nI i := nI_ge hl (by omega)
    have hv : vp_in (nI i) (lenR r) := vp_in_nI hl (by omega)
    have hne : c ≠ o ∧ (c + 5 < o ∨ o + 5 < c) := by unfold pairC at hco; omega
    have step : T mX1_takeOver Q 2 [some (.ref (c + r)), some (.ref (o + r)), some (.int (nI (i + 1)))] [] (up S (c + r) i (S (o + r) i)) := by
      refine ih (i + 1) _ (by omega) (Ro.fr (Fr.put (a := c) (b := c + 5) (by omega) (by omega)) (by omega)) ?_ (fun S' R' F' => h1 S' R' ((Fr.put (by omega) (by omega)).tr F'))
      have e1 : S (o + r) i = K' r i := by rw [hK r i (by omega)]; exact Ro r i (by unfold inr; unfold lenR at hl; split at hl <;> omega)
      refine ParC.put Rc e1 (fun a j _ z => ?_)
      unfold DI at z ⊢
      omega
    clear ih hK Ro Rc h1
    rcases (show r = 1 ∨ r = 2 ∨ r = 3 ∨ r = 4 ∨ r = 5 by omega) with rfl | rfl | rfl | rfl | rfl <;> rcases hco with ⟨rfl, rfl⟩ | ⟨rfl, rfl⟩ | ⟨rfl, rfl⟩ | ⟨rfl, rfl⟩ <;>
    · skip
      repeat' (first | (refine Rules.st H okX1_takeOver [2] ?_; conv => whnf) | refine br_t (by first | decide | assumption) ?_ | refine br_f (by first | decide | assumption) ?_ | refine br_c (fun _ => ?_) (fun _ => ?_) | refine ⟨by decide, ?_⟩ | refine ⟨by first | assumption | (unfold vp_in; decide) | ((with_reducible (refine vp_in_nI ?_ ?_)) <;> omega), ?_⟩ | fail)
      simp only [nIc (show i < 2 ^ 31 by omega), nI_1]
      exact Halt.mk step
set_option maxRecDepth 100000 in
theorem X1_takeOver (H : Rules C T) {c o r : Nat} (hco : pairC c o) (hr : 1 ≤ r ∧ r ≤ 5) {K K' : Mem} (hK : ∀ a j, 1 ≤ a → K' a j = K a j) {S : Mem} (Ro : RepC o S K) (Rc : ParC (DR r) c S K') {Q : Pst} (h1 : ∀ S', ParC (DR (r + 1)) c S' K' → Fr c (c + 5) S S' → RepC o S' K → Q none S') : C mX1_takeOver [.ref (c + r), .ref (o + r)] S Q := by
  have hne : c ≠ o ∧ (c + 5 < o ∨ o + 5 < c) := by unfold pairC at hco; omega
  have key := X1_takeOver_l H hco hr hK (Q := Q) (lenR r) 0 S (by omega) Ro (fun a j hj z => Rc a j hj (by unfold DI at z; unfold DR; omega)) (fun S' R' F' => h1 S' R' F' (Ro.fr F' (by omega)))
  refine Rules.go H (by decide) (Nat.le_of_ble_eq_true rfl) ?_
  repeat' (first | (refine Rules.st H okX1_takeOver [2] ?_; conv => whnf) | refine br_t (by first | decide | assumption) ?_ | refine br_f (by first | decide | assumption) ?_ | refine br_c (fun _ => ?_) (fun _ => ?_) | refine ⟨by decide, ?_⟩ | refine ⟨by first | assumption | (unfold vp_in; decide) | ((with_reducible (refine vp_in_nI ?_ ?_)) <;> omega), ?_⟩ | fail)
  exact Halt.mk key
/-- who stays in and how often one went down are not taken over -/
def freshK (K : Mem) : Mem := up (up K 0 3 0) 0 4 0
set_option maxRecDepth 100000 in
theorem X1_become (H : Rules C T) {c o : Nat} (hco : pairC c o) {K S : Mem} (Ro : RepC o S K) {Q : Pst} (h1 : ∀ S', RepC c S' (freshK K) → Fr c (c + 5) S S' → Q none S') : C mX1_become [.ref c, .ref o] S Q := by
  have hne : c ≠ o ∧ (c + 5 < o ∨ o + 5 < c) := by unfold pairC at hco; omega
  have hco0 := hco
  have hK : ∀ a j, 1 ≤ a → freshK K a j = K a j := fun a j ha => by
    unfold freshK
    rw [up_k (by omega), up_k (by omega)]
  obtain ⟨S0, hS0⟩ : ∃ S0, S0 = (up (up (up (up (up S (c + 0) 0 (S (o + 0) 0)) (c + 0) 1 (S (o + 0) 1)) (c + 0) 2 (S (o + 0) 2)) (c + 0) 3 0) (c + 0) 4 0) := ⟨_, rfl⟩
  have R0 : RepC o S0 K := by
    rw [hS0]
    have p : ∀ {S : Mem} {j : Nat} {v : Int32}, RepC o S K → RepC o (up S (c + 0) j v) K := fun h => h.fr (Fr.put (a := c) (b := c + 5) (by omega) (by omega)) (by omega)
    exact p (p (p (p (p Ro))))
  have P0 : ParC (DR 1) c S0 (freshK K) := by
    intro a j hj z
    unfold DR at z
    have ha : a = 0 := by omega
    subst ha
    have e0 := Ro 0 0 (by simp [inr])
    have e1 := Ro 0 1 (by simp [inr])
    have e2 := Ro 0 2 (by simp [inr])
    unfold inr at hj
    rw [hS0]
    rcases (show j = 0 ∨ j = 1 ∨ j = 2 ∨ j = 3 ∨ j = 4 by omega) with rfl | rfl | rfl | rfl | rfl <;> simp [up, freshK, e0, e1, e2] <;> assumption
  have F0 : Fr c (c + 5) S S0 := by
    rw [hS0]
    have q : ∀ {S1 : Mem} {j : Nat} {v : Int32}, Fr c (c + 5) S S1 → Fr c (c + 5) S (up S1 (c + 0) j v) := fun h => h.tr (Fr.put (by omega) (by omega))
    exact q (q (q (q (q Fr.rf))))
  have fin : ∀ {S'}, ParC (DR 6) c S' (freshK K) → Fr c (c + 5) S S' → Q none S' := fun P F => h1 _ (fun a j hj => P a j hj (by unfold DR; unfold inr at hj; omega)) F
  have tk := fun (r : Nat) (hr : 1 ≤ r ∧ r ≤ 5) {S1 : Mem} (R1 : RepC o S1 K) (P1 : ParC (DR r) c S1 (freshK K)) {Q : Pst} => X1_takeOver H hco0 hr hK R1 P1 (Q := Q)
  clear hK hne h1 Ro
  rcases hco with ⟨rfl, rfl⟩ | ⟨rfl, rfl⟩ | ⟨rfl, rfl⟩ | ⟨rfl, rfl⟩ <;>
  · refine Rules.go H (by decide) (Nat.le_of_ble_eq_true rfl) ?_
    repeat' (first | (refine Rules.st H okX1_become [] ?_; conv => whnf) | refine br_t (by first | decide | assumption) ?_ | refine br_f (by first | decide | assumption) ?_ | refine br_c (fun _ => ?_) (fun _ => ?_) | refine ⟨by decide, ?_⟩ | refine ⟨by first | assumption | (unfold vp_in; decide) | ((with_reducible (refine vp_in_nI ?_ ?_)) <;> omega), ?_⟩ | fail)
    subst hS0
    refine tk 1 (by omega) R0 P0 (fun S1 P1 F1 R1 => ?_)
    repeat' (first | (refine Rules.st H okX1_become [] ?_; conv => whnf) | refine br_t (by first | decide | assumption) ?_ | refine br_f (by first | decide | assumption) ?_ | refine br_c (fun _ => ?_) (fun _ => ?_) | refine ⟨by decide, ?_⟩ | refine ⟨by first | assumption | (unfold vp_in; decide) | ((with_reducible (refine vp_in_nI ?_ ?_)) <;> omega), ?_⟩ | fail)
    refine tk 2 (by omega) R1 P1 (fun S2 P2 F2 R2 => ?_)
    repeat' (first | (refine Rules.st H okX1_become [] ?_; conv => whnf) | refine br_t (by first | decide | assumption) ?_ | refine br_f (by first | decide | assumption) ?_ | refine br_c (fun _ => ?_) (fun _ => ?_) | refine ⟨by decide, ?_⟩ | refine ⟨by first | assumption | (unfold vp_in; decide) | ((with_reducible (refine vp_in_nI ?_ ?_)) <;> omega), ?_⟩ | fail)
    refine tk 3 (by omega) R2 P2 (fun S3 P3 F3 R3 => ?_)
    repeat' (first | (refine Rules.st H okX1_become [] ?_; conv => whnf) | refine br_t (by first | decide | assumption) ?_ | refine br_f (by first | decide | assumption) ?_ | refine br_c (fun _ => ?_) (fun _ => ?_) | refine ⟨by decide, ?_⟩ | refine ⟨by first | assumption | (unfold vp_in; decide) | ((with_reducible (refine vp_in_nI ?_ ?_)) <;> omega), ?_⟩ | fail)
    refine tk 4 (by omega) R3 P3 (fun S4 P4 F4 R4 => ?_)
    repeat' (first | (refine Rules.st H okX1_become [] ?_; conv => whnf) | refine br_t (by first | decide | assumption) ?_ | refine br_f (by first | decide | assumption) ?_ | refine br_c (fun _ => ?_) (fun _ => ?_) | refine ⟨by decide, ?_⟩ | refine ⟨by first | assumption | (unfold vp_in; decide) | ((with_reducible (refine vp_in_nI ?_ ?_)) <;> omega), ?_⟩ | fail)
    refine tk 5 (by omega) R4 P4 (fun S5 P5 F5 R5 => ?_)
    repeat' (first | (refine Rules.st H okX1_become [] ?_; conv => whnf) | refine br_t (by first | decide | assumption) ?_ | refine br_f (by first | decide | assumption) ?_ | refine br_c (fun _ => ?_) (fun _ => ?_) | refine ⟨by decide, ?_⟩ | refine ⟨by first | assumption | (unfold vp_in; decide) | ((with_reducible (refine vp_in_nI ?_ ?_)) <;> omega), ?_⟩ | fail)
    exact fin P5 (((((F0.tr F1).tr F2).tr F3).tr F4).tr F5)
end CORR4
