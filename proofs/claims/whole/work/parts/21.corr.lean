section CORR3
variable {C : Cst} {T : Nat → Pst → Nat → Lcs → List Value → Mem → Prop}
/-- Integer.bitCount, as the bytecode has it -/
def pc1 (x : Int32) : Int32 := x - ((x.toUInt32 >>> (Int32.toUInt32 1 &&& Int32.toUInt32 31)).toInt32 &&& 1431655765)
def pc2 (x : Int32) : Int32 := (x &&& 858993459) + ((x.toUInt32 >>> (Int32.toUInt32 2 &&& Int32.toUInt32 31)).toInt32 &&& 858993459)
def pc3 (x : Int32) : Int32 := (x + (x.toUInt32 >>> (Int32.toUInt32 4 &&& Int32.toUInt32 31)).toInt32) &&& 252645135
def pc4 (x : Int32) : Int32 := x + (x.toUInt32 >>> (Int32.toUInt32 8 &&& Int32.toUInt32 31)).toInt32
def pc5 (x : Int32) : Int32 := x + (x.toUInt32 >>> (Int32.toUInt32 16 &&& Int32.toUInt32 31)).toInt32
def pcI (x : Int32) : Int32 := pc5 (pc4 (pc3 (pc2 (pc1 x)))) &&& 63
set_option maxRecDepth 100000 in
theorem J6_bitCount (H : Rules C T) {S : Mem} {x : Int32} {Q : Pst} (h1 : Q (some (.int (pcI x))) S) : C mJ6_bitCount_0f7a4 [.int x] S Q := by
  refine Rules.go H (by decide) (Nat.le_of_ble_eq_true rfl) ?_
  repeat' (first | (refine Rules.st H okJ6_bitCount_0f7a4 [] ?_; conv => whnf) | refine br_t (by first | decide | assumption) ?_ | refine br_f (by first | decide | assumption) ?_ | refine br_c (fun _ => ?_) (fun _ => ?_) | refine ⟨by decide, ?_⟩ | refine ⟨by first | assumption | (unfold vp_in; decide) | ((with_reducible (refine vp_in_nI ?_ ?_)) <;> omega), ?_⟩ | fail)
  exact h1
def absI (x : Int32) : Int32 := if 0 ≤ x then x else 0 - x
def maxI (x y : Int32) : Int32 := if x < y then y else x
def laterK (K : Mem) : Int32 := maxI (K 5 0) (K 5 1)
set_option maxRecDepth 100000 in
theorem X1_doneCount (H : Rules C T) {c : Nat} (hc : isC c) {S K : Mem} (R : RepC c S K) {Q : Pst} (h1 : Q (some (.int (pcI (K 0 1)))) S) : C mX1_doneCount [.ref c] S Q := by
  rw [← R 0 1 (by simp [inr])] at h1
  rcases hc with rfl | rfl | rfl <;>
  · refine Rules.go H (by decide) (Nat.le_of_ble_eq_true rfl) ?_
    repeat' (first | (refine Rules.st H okX1_doneCount [] ?_; conv => whnf) | refine br_t (by first | decide | assumption) ?_ | refine br_f (by first | decide | assumption) ?_ | refine br_c (fun _ => ?_) (fun _ => ?_) | refine ⟨by decide, ?_⟩ | refine ⟨by first | assumption | (unfold vp_in; decide) | ((with_reducible (refine vp_in_nI ?_ ?_)) <;> omega), ?_⟩ | fail)
    refine J6_bitCount H ?_
    repeat' (first | (refine Rules.st H okX1_doneCount [] ?_; conv => whnf) | refine br_t (by first | decide | assumption) ?_ | refine br_f (by first | decide | assumption) ?_ | refine br_c (fun _ => ?_) (fun _ => ?_) | refine ⟨by decide, ?_⟩ | refine ⟨by first | assumption | (unfold vp_in; decide) | ((with_reducible (refine vp_in_nI ?_ ?_)) <;> omega), ?_⟩ | fail)
    exact h1
set_option maxRecDepth 100000 in
theorem X1_laterClock (H : Rules C T) {c : Nat} (hc : isC c) {S K : Mem} (R : RepC c S K) {Q : Pst} (h1 : Q (some (.int (laterK K))) S) : C mX1_laterClock [.ref c] S Q := by
  have hc0 := hc
  unfold laterK at h1
  rcases hc with rfl | rfl | rfl <;>
  · refine Rules.go H (by decide) (Nat.le_of_ble_eq_true rfl) ?_
    repeat' (first | (refine Rules.st H okX1_laterClock [] ?_; conv => whnf) | refine br_t (by first | decide | assumption) ?_ | refine br_f (by first | decide | assumption) ?_ | refine br_c (fun _ => ?_) (fun _ => ?_) | refine ⟨by decide, ?_⟩ | refine ⟨by first | assumption | (unfold vp_in; decide) | ((with_reducible (refine vp_in_nI ?_ ?_)) <;> omega), ?_⟩ | fail)
    refine X1_clockOf H hc0 R (r := 0) (by omega) ?_
    repeat' (first | (refine Rules.st H okX1_laterClock [] ?_; conv => whnf) | refine br_t (by first | decide | assumption) ?_ | refine br_f (by first | decide | assumption) ?_ | refine br_c (fun _ => ?_) (fun _ => ?_) | refine ⟨by decide, ?_⟩ | refine ⟨by first | assumption | (unfold vp_in; decide) | ((with_reducible (refine vp_in_nI ?_ ?_)) <;> omega), ?_⟩ | fail)
    refine X1_clockOf H hc0 R (r := 1) (by omega) ?_
    repeat' (first | (refine Rules.st H okX1_laterClock [] ?_; conv => whnf) | refine br_t (by first | decide | assumption) ?_ | refine br_f (by first | decide | assumption) ?_ | refine br_c (fun _ => ?_) (fun _ => ?_) | refine ⟨by decide, ?_⟩ | refine ⟨by first | assumption | (unfold vp_in; decide) | ((with_reducible (refine vp_in_nI ?_ ?_)) <;> omega), ?_⟩ | fail)
    exact h1
def workK (K : Mem) (r : Nat) : Int32 := workI (K 1 r) (K 2 r)
def linK (K : Mem) (r : Nat) : Int32 := linenI (K 1 r)
def tipK (K : Mem) (r : Nat) : Int32 := tipI (K 1 r) (K 2 r)
def outK (K : Mem) (r : Nat) (t : Int32) : Bool := if bt (K 0 3) r = 0 then outB (K 1 r) (K 2 r) t else false
set_option maxRecDepth 100000 in
theorem X1_workOf (H : Rules C T) {c : Nat} (hc : isC c) {S K : Mem} (R : RepC c S K) {r : Nat} (hr : r < 8) {Q : Pst} (h1 : Q (some (.int (workK K r))) S) : C mX1_workOf [.ref c, .int (nI r)] S Q := by
  have hc0 := hc
  rcases hc with rfl | rfl | rfl <;>
  · refine Rules.go H (by decide) (Nat.le_of_ble_eq_true rfl) ?_
    repeat' (first | (refine Rules.st H okX1_workOf [] ?_; conv => whnf) | refine br_t (by first | decide | assumption) ?_ | refine br_f (by first | decide | assumption) ?_ | refine br_c (fun _ => ?_) (fun _ => ?_) | refine ⟨by decide, ?_⟩ | refine ⟨by first | assumption | (unfold vp_in; decide) | ((with_reducible (refine vp_in_nI ?_ ?_)) <;> omega), ?_⟩ | fail)
    refine X1_kindOf H hc0 R hr ?_
    repeat' (first | (refine Rules.st H okX1_workOf [] ?_; conv => whnf) | refine br_t (by first | decide | assumption) ?_ | refine br_f (by first | decide | assumption) ?_ | refine br_c (fun _ => ?_) (fun _ => ?_) | refine ⟨by decide, ?_⟩ | refine ⟨by first | assumption | (unfold vp_in; decide) | ((with_reducible (refine vp_in_nI ?_ ?_)) <;> omega), ?_⟩ | fail)
    refine X1_figureOf H hc0 R hr ?_
    repeat' (first | (refine Rules.st H okX1_workOf [] ?_; conv => whnf) | refine br_t (by first | decide | assumption) ?_ | refine br_f (by first | decide | assumption) ?_ | refine br_c (fun _ => ?_) (fun _ => ?_) | refine ⟨by decide, ?_⟩ | refine ⟨by first | assumption | (unfold vp_in; decide) | ((with_reducible (refine vp_in_nI ?_ ?_)) <;> omega), ?_⟩ | fail)
    refine X2_work H ?_
    repeat' (first | (refine Rules.st H okX1_workOf [] ?_; conv => whnf) | refine br_t (by first | decide | assumption) ?_ | refine br_f (by first | decide | assumption) ?_ | refine br_c (fun _ => ?_) (fun _ => ?_) | refine ⟨by decide, ?_⟩ | refine ⟨by first | assumption | (unfold vp_in; decide) | ((with_reducible (refine vp_in_nI ?_ ?_)) <;> omega), ?_⟩ | fail)
    exact h1
set_option maxRecDepth 100000 in
theorem X1_linenOf (H : Rules C T) {c : Nat} (hc : isC c) {S K : Mem} (R : RepC c S K) {r : Nat} (hr : r < 8) {Q : Pst} (h1 : Q (some (.int (linK K r))) S) : C mX1_linenOf [.ref c, .int (nI r)] S Q := by
  have hc0 := hc
  rcases hc with rfl | rfl | rfl <;>
  · refine Rules.go H (by decide) (Nat.le_of_ble_eq_true rfl) ?_
    repeat' (first | (refine Rules.st H okX1_linenOf [] ?_; conv => whnf) | refine br_t (by first | decide | assumption) ?_ | refine br_f (by first | decide | assumption) ?_ | refine br_c (fun _ => ?_) (fun _ => ?_) | refine ⟨by decide, ?_⟩ | refine ⟨by first | assumption | (unfold vp_in; decide) | ((with_reducible (refine vp_in_nI ?_ ?_)) <;> omega), ?_⟩ | fail)
    refine X1_kindOf H hc0 R hr ?_
    repeat' (first | (refine Rules.st H okX1_linenOf [] ?_; conv => whnf) | refine br_t (by first | decide | assumption) ?_ | refine br_f (by first | decide | assumption) ?_ | refine br_c (fun _ => ?_) (fun _ => ?_) | refine ⟨by decide, ?_⟩ | refine ⟨by first | assumption | (unfold vp_in; decide) | ((with_reducible (refine vp_in_nI ?_ ?_)) <;> omega), ?_⟩ | fail)
    refine X2_linen H ?_
    repeat' (first | (refine Rules.st H okX1_linenOf [] ?_; conv => whnf) | refine br_t (by first | decide | assumption) ?_ | refine br_f (by first | decide | assumption) ?_ | refine br_c (fun _ => ?_) (fun _ => ?_) | refine ⟨by decide, ?_⟩ | refine ⟨by first | assumption | (unfold vp_in; decide) | ((with_reducible (refine vp_in_nI ?_ ?_)) <;> omega), ?_⟩ | fail)
    exact h1
set_option maxRecDepth 100000 in
theorem X1_tipOf (H : Rules C T) {c : Nat} (hc : isC c) {S K : Mem} (R : RepC c S K) {r : Nat} (hr : r < 8) {Q : Pst} (h1 : Q (some (.int (tipK K r))) S) : C mX1_tipOf [.ref c, .int (nI r)] S Q := by
  have hc0 := hc
  rcases hc with rfl | rfl | rfl <;>
  · refine Rules.go H (by decide) (Nat.le_of_ble_eq_true rfl) ?_
    repeat' (first | (refine Rules.st H okX1_tipOf [] ?_; conv => whnf) | refine br_t (by first | decide | assumption) ?_ | refine br_f (by first | decide | assumption) ?_ | refine br_c (fun _ => ?_) (fun _ => ?_) | refine ⟨by decide, ?_⟩ | refine ⟨by first | assumption | (unfold vp_in; decide) | ((with_reducible (refine vp_in_nI ?_ ?_)) <;> omega), ?_⟩ | fail)
    refine X1_kindOf H hc0 R hr ?_
    repeat' (first | (refine Rules.st H okX1_tipOf [] ?_; conv => whnf) | refine br_t (by first | decide | assumption) ?_ | refine br_f (by first | decide | assumption) ?_ | refine br_c (fun _ => ?_) (fun _ => ?_) | refine ⟨by decide, ?_⟩ | refine ⟨by first | assumption | (unfold vp_in; decide) | ((with_reducible (refine vp_in_nI ?_ ?_)) <;> omega), ?_⟩ | fail)
    refine X1_figureOf H hc0 R hr ?_
    repeat' (first | (refine Rules.st H okX1_tipOf [] ?_; conv => whnf) | refine br_t (by first | decide | assumption) ?_ | refine br_f (by first | decide | assumption) ?_ | refine br_c (fun _ => ?_) (fun _ => ?_) | refine ⟨by decide, ?_⟩ | refine ⟨by first | assumption | (unfold vp_in; decide) | ((with_reducible (refine vp_in_nI ?_ ?_)) <;> omega), ?_⟩ | fail)
    refine X2_tip H ?_
    repeat' (first | (refine Rules.st H okX1_tipOf [] ?_; conv => whnf) | refine br_t (by first | decide | assumption) ?_ | refine br_f (by first | decide | assumption) ?_ | refine br_c (fun _ => ?_) (fun _ => ?_) | refine ⟨by decide, ?_⟩ | refine ⟨by first | assumption | (unfold vp_in; decide) | ((with_reducible (refine vp_in_nI ?_ ?_)) <;> omega), ?_⟩ | fail)
    exact h1
set_option maxRecDepth 100000 in
theorem X1_guestOut (H : Rules C T) {c : Nat} (hc : isC c) {S K : Mem} (R : RepC c S K) {r : Nat} (hr : r < 8) {t : Int32} {Q : Pst} (h1 : outK K r t = true → Q (some (.int 1)) S) (h0 : outK K r t = false → Q (some (.int 0)) S) : C mX1_guestOut [.ref c, .int (nI r), .int t] S Q := by
  have hc0 := hc
  have g3 : ∀ P : Prop, (¬ bt (S (c + 0) 3) r = 0 → P) → (¬ bt (K 0 3) r = 0 → P) := fun P h z => h (by rw [R 0 3 (by simp [inr])]; exact z)
  have k0 : ¬ bt (S (c + 0) 3) r = 0 → Q (some (.int 0)) S := fun z => h0 (by unfold outK; rw [if_neg (by rw [← R 0 3 (by simp [inr])]; exact z)])
  have k1 : bt (S (c + 0) 3) r = 0 → outK K r t = outB (K 1 r) (K 2 r) t := fun z => by unfold outK; rw [if_pos (by rw [← R 0 3 (by simp [inr])]; exact z)]
  rcases hc with rfl | rfl | rfl <;>
  · refine Rules.go H (by decide) (Nat.le_of_ble_eq_true rfl) ?_
    repeat' (first | (refine Rules.st H okX1_guestOut [] ?_; conv => whnf) | refine br_t (by first | decide | assumption) ?_ | refine br_f (by first | decide | assumption) ?_ | refine br_c (fun _ => ?_) (fun _ => ?_) | refine ⟨by decide, ?_⟩ | refine ⟨by first | assumption | (unfold vp_in; decide) | ((with_reducible (refine vp_in_nI ?_ ?_)) <;> omega), ?_⟩ | fail)
    · refine X1_kindOf H hc0 R hr ?_
      repeat' (first | (refine Rules.st H okX1_guestOut [] ?_; conv => whnf) | refine br_t (by first | decide | assumption) ?_ | refine br_f (by first | decide | assumption) ?_ | refine br_c (fun _ => ?_) (fun _ => ?_) | refine ⟨by decide, ?_⟩ | refine ⟨by first | assumption | (unfold vp_in; decide) | ((with_reducible (refine vp_in_nI ?_ ?_)) <;> omega), ?_⟩ | fail)
      refine X1_figureOf H hc0 R hr ?_
      repeat' (first | (refine Rules.st H okX1_guestOut [] ?_; conv => whnf) | refine br_t (by first | decide | assumption) ?_ | refine br_f (by first | decide | assumption) ?_ | refine br_c (fun _ => ?_) (fun _ => ?_) | refine ⟨by decide, ?_⟩ | refine ⟨by first | assumption | (unfold vp_in; decide) | ((with_reducible (refine vp_in_nI ?_ ?_)) <;> omega), ?_⟩ | fail)
      refine X2_isOut H (fun z => ?_) (fun z => ?_)
      · repeat' (first | (refine Rules.st H okX1_guestOut [] ?_; conv => whnf) | refine br_t (by first | decide | assumption) ?_ | refine br_f (by first | decide | assumption) ?_ | refine br_c (fun _ => ?_) (fun _ => ?_) | refine ⟨by decide, ?_⟩ | refine ⟨by first | assumption | (unfold vp_in; decide) | ((with_reducible (refine vp_in_nI ?_ ?_)) <;> omega), ?_⟩ | fail)
        exact h1 (by rw [k1 (by assumption)]; exact z)
      · repeat' (first | (refine Rules.st H okX1_guestOut [] ?_; conv => whnf) | refine br_t (by first | decide | assumption) ?_ | refine br_f (by first | decide | assumption) ?_ | refine br_c (fun _ => ?_) (fun _ => ?_) | refine ⟨by decide, ?_⟩ | refine ⟨by first | assumption | (unfold vp_in; decide) | ((with_reducible (refine vp_in_nI ?_ ?_)) <;> omega), ?_⟩ | fail)
        exact h0 (by rw [k1 (by assumption)]; exact z)
    · exact k0 ‹_›
def walkK (K : Mem) (m p : Nat) : Mem := up (passK K m (absI (K 3 m - nI p))) 3 m (nI p)
set_option maxRecDepth 100000 in
theorem X1_walkTo (H : Rules C T) {c : Nat} (hc : isC c) {S K : Mem} (R : RepC c S K) {m : Nat} (hm : m < 2) {p : Nat} {Q : Pst} (h1 : ∀ S', RepC c S' (walkK K m p) → Fr c (c + 5) S S' → Q none S') : C mX1_walkTo [.ref c, .int (nI m), .int (nI p)] S Q := by
  have hc0 := hc
  rcases hc with rfl | rfl | rfl <;>
  · refine Rules.go H (by decide) (Nat.le_of_ble_eq_true rfl) ?_
    repeat' (first | (refine Rules.st H okX1_walkTo [] ?_; conv => whnf) | refine br_t (by first | decide | assumption) ?_ | refine br_f (by first | decide | assumption) ?_ | refine br_c (fun _ => ?_) (fun _ => ?_) | refine ⟨by decide, ?_⟩ | refine ⟨by first | assumption | (unfold vp_in; decide) | ((with_reducible (refine vp_in_nI ?_ ?_)) <;> omega), ?_⟩ | fail)
    refine X1_placeOf H hc0 R hm ?_
    repeat' (first | (refine Rules.st H okX1_walkTo [] ?_; conv => whnf) | refine br_t (by first | decide | assumption) ?_ | refine br_f (by first | decide | assumption) ?_ | refine br_c (fun _ => ?_) (fun _ => ?_) | refine ⟨by decide, ?_⟩ | refine ⟨by first | assumption | (unfold vp_in; decide) | ((with_reducible (refine vp_in_nI ?_ ?_)) <;> omega), ?_⟩ | fail)
    refine X1_pass H hc0 R hm (fun S1 R1 F1 => ?_)
    repeat' (first | (refine Rules.st H okX1_walkTo [] ?_; conv => whnf) | refine br_t (by first | decide | assumption) ?_ | refine br_f (by first | decide | assumption) ?_ | refine br_c (fun _ => ?_) (fun _ => ?_) | refine ⟨by decide, ?_⟩ | refine ⟨by first | assumption | (unfold vp_in; decide) | ((with_reducible (refine vp_in_nI ?_ ?_)) <;> omega), ?_⟩ | fail)
    refine X1_setPlace H hc0 R1 hm (fun S2 R2 F2 => ?_)
    repeat' (first | (refine Rules.st H okX1_walkTo [] ?_; conv => whnf) | refine br_t (by first | decide | assumption) ?_ | refine br_f (by first | decide | assumption) ?_ | refine br_c (fun _ => ?_) (fun _ => ?_) | refine ⟨by decide, ?_⟩ | refine ⟨by first | assumption | (unfold vp_in; decide) | ((with_reducible (refine vp_in_nI ?_ ?_)) <;> omega), ?_⟩ | fail)
    exact h1 S2 R2 (F1.tr F2)
def downK (K : Mem) (m : Nat) : Mem := up (passK (walkK K m 0) m 2) 4 m 6
set_option maxRecDepth 100000 in
theorem X1_goDown (H : Rules C T) {c : Nat} (hc : isC c) {S K : Mem} (R : RepC c S K) {m : Nat} (hm : m < 2) {Q : Pst} (h1 : ∀ S', RepC c S' (downK K m) → Fr c (c + 5) S S' → Q none S') : C mX1_goDown [.ref c, .int (nI m)] S Q := by
  have hc0 := hc
  rcases hc with rfl | rfl | rfl <;>
  · refine Rules.go H (by decide) (Nat.le_of_ble_eq_true rfl) ?_
    repeat' (first | (refine Rules.st H okX1_goDown [] ?_; conv => whnf) | refine br_t (by first | decide | assumption) ?_ | refine br_f (by first | decide | assumption) ?_ | refine br_c (fun _ => ?_) (fun _ => ?_) | refine ⟨by decide, ?_⟩ | refine ⟨by first | assumption | (unfold vp_in; decide) | ((with_reducible (refine vp_in_nI ?_ ?_)) <;> omega), ?_⟩ | fail)
    refine X1_walkTo H hc0 R hm (p := 0) (fun S1 R1 F1 => ?_)
    repeat' (first | (refine Rules.st H okX1_goDown [] ?_; conv => whnf) | refine br_t (by first | decide | assumption) ?_ | refine br_f (by first | decide | assumption) ?_ | refine br_c (fun _ => ?_) (fun _ => ?_) | refine ⟨by decide, ?_⟩ | refine ⟨by first | assumption | (unfold vp_in; decide) | ((with_reducible (refine vp_in_nI ?_ ?_)) <;> omega), ?_⟩ | fail)
    refine X1_pass H hc0 R1 hm (fun S2 R2 F2 => ?_)
    repeat' (first | (refine Rules.st H okX1_goDown [] ?_; conv => whnf) | refine br_t (by first | decide | assumption) ?_ | refine br_f (by first | decide | assumption) ?_ | refine br_c (fun _ => ?_) (fun _ => ?_) | refine ⟨by decide, ?_⟩ | refine ⟨by first | assumption | (unfold vp_in; decide) | ((with_reducible (refine vp_in_nI ?_ ?_)) <;> omega), ?_⟩ | fail)
    refine X1_setLoad H hc0 R2 hm (fun S3 R3 F3 => ?_)
    repeat' (first | (refine Rules.st H okX1_goDown [] ?_; conv => whnf) | refine br_t (by first | decide | assumption) ?_ | refine br_f (by first | decide | assumption) ?_ | refine br_c (fun _ => ?_) (fun _ => ?_) | refine ⟨by decide, ?_⟩ | refine ⟨by first | assumption | (unfold vp_in; decide) | ((with_reducible (refine vp_in_nI ?_ ?_)) <;> omega), ?_⟩ | fail)
    exact h1 S3 R3 ((F1.tr F2).tr F3)
def fetchK (K : Mem) (m : Nat) : Mem := let K1 := up (passK K m (2 * K 3 m + 4)) 4 m 6; up K1 0 4 (K1 0 4 + 1)
set_option maxRecDepth 100000 in
theorem X1_fetchLinen (H : Rules C T) {c : Nat} (hc : isC c) {S K : Mem} (R : RepC c S K) {m : Nat} (hm : m < 2) {Q : Pst} (h1 : ∀ S', RepC c S' (fetchK K m) → Fr c (c + 5) S S' → Q none S') : C mX1_fetchLinen [.ref c, .int (nI m)] S Q := by
  have hc0 := hc
  have fin : ∀ S2, RepC c S2 (up (passK K m (2 * K 3 m + 4)) 4 m 6) → Fr c (c + 5) S S2 → Q none (up S2 (c + 0) 4 (S2 (c + 0) 4 + 1)) := fun S2 R2 F2 => h1 _ (by rw [R2 0 4 (by simp [inr])]; exact R2.put) (F2.tr (Fr.put (by omega) (by omega)))
  rcases hc with rfl | rfl | rfl <;>
  · refine Rules.go H (by decide) (Nat.le_of_ble_eq_true rfl) ?_
    repeat' (first | (refine Rules.st H okX1_fetchLinen [] ?_; conv => whnf) | refine br_t (by first | decide | assumption) ?_ | refine br_f (by first | decide | assumption) ?_ | refine br_c (fun _ => ?_) (fun _ => ?_) | refine ⟨by decide, ?_⟩ | refine ⟨by first | assumption | (unfold vp_in; decide) | ((with_reducible (refine vp_in_nI ?_ ?_)) <;> omega), ?_⟩ | fail)
    refine X1_placeOf H hc0 R hm ?_
    repeat' (first | (refine Rules.st H okX1_fetchLinen [] ?_; conv => whnf) | refine br_t (by first | decide | assumption) ?_ | refine br_f (by first | decide | assumption) ?_ | refine br_c (fun _ => ?_) (fun _ => ?_) | refine ⟨by decide, ?_⟩ | refine ⟨by first | assumption | (unfold vp_in; decide) | ((with_reducible (refine vp_in_nI ?_ ?_)) <;> omega), ?_⟩ | fail)
    refine X1_pass H hc0 R hm (fun S1 R1 F1 => ?_)
    repeat' (first | (refine Rules.st H okX1_fetchLinen [] ?_; conv => whnf) | refine br_t (by first | decide | assumption) ?_ | refine br_f (by first | decide | assumption) ?_ | refine br_c (fun _ => ?_) (fun _ => ?_) | refine ⟨by decide, ?_⟩ | refine ⟨by first | assumption | (unfold vp_in; decide) | ((with_reducible (refine vp_in_nI ?_ ?_)) <;> omega), ?_⟩ | fail)
    refine X1_setLoad H hc0 R1 hm (fun S2 R2 F2 => ?_)
    repeat' (first | (refine Rules.st H okX1_fetchLinen [] ?_; conv => whnf) | refine br_t (by first | decide | assumption) ?_ | refine br_f (by first | decide | assumption) ?_ | refine br_c (fun _ => ?_) (fun _ => ?_) | refine ⟨by decide, ?_⟩ | refine ⟨by first | assumption | (unfold vp_in; decide) | ((with_reducible (refine vp_in_nI ?_ ?_)) <;> omega), ?_⟩ | fail)
    exact fin S2 R2 (F1.tr F2)
def cleanK (K : Mem) (m r : Nat) (w : Int32) : Mem := let K1 := passK K m w; let K2 := up K1 4 m (K1 4 m - linK K1 r); up K2 0 1 (K2 0 1 ^^^ (1 <<< (nI r &&& 31)))
def knockK (K : Mem) (m r : Nat) (w : Int32) : Int32 × Mem :=
  if bt (K 0 1) r = 0 ∧ bt (K 0 2) r = 0 then
    let K1 := passK K m 1
    if outK K1 r (K1 5 m) = true then
      if K1 4 m < linK K1 r then
        let K2 := fetchK K1 m
        if outK K2 r (K2 5 m) = true then (3, cleanK K2 m r w) else (2, K2)
      else (3, cleanK K1 m r w)
    else (1, K1)
  else (0, K)
set_option maxRecDepth 100000 in
theorem X1_knock (H : Rules C T) {c : Nat} (hc : isC c) {S K : Mem} (R : RepC c S K) {m : Nat} (hm : m < 2) {r : Nat} (hr : r < 8) {w : Int32} {Q : Pst} (h1 : ∀ S', RepC c S' (knockK K m r w).2 → Fr c (c + 5) S S' → Q (some (.int (knockK K m r w).1)) S') : C mX1_knock [.ref c, .int (nI m), .int (nI r), .int w] S Q := by
  have hc0 := hc
  unfold knockK at h1
  rcases hc with rfl | rfl | rfl <;>
  · refine Rules.go H (by decide) (Nat.le_of_ble_eq_true rfl) ?_
    repeat' (first | (refine Rules.st H okX1_knock [] ?_; conv => whnf) | refine br_t (by first | decide | assumption) ?_ | refine br_f (by first | decide | assumption) ?_ | refine br_c (fun _ => ?_) (fun _ => ?_) | refine ⟨by decide, ?_⟩ | refine ⟨by first | assumption | (unfold vp_in; decide) | ((with_reducible (refine vp_in_nI ?_ ?_)) <;> omega), ?_⟩ | fail)
    refine X1_isDone H hc0 R (fun g => ?_) (fun g => ?_)
    · repeat' (first | (refine Rules.st H okX1_knock [] ?_; conv => whnf) | refine br_t (by first | decide | assumption) ?_ | refine br_f (by first | decide | assumption) ?_ | refine br_c (fun _ => ?_) (fun _ => ?_) | refine ⟨by decide, ?_⟩ | refine ⟨by first | assumption | (unfold vp_in; decide) | ((with_reducible (refine vp_in_nI ?_ ?_)) <;> omega), ?_⟩ | fail)
      rw [if_neg (fun z => g z.1)] at h1
      exact h1 S R Fr.rf
    · repeat' (first | (refine Rules.st H okX1_knock [] ?_; conv => whnf) | refine br_t (by first | decide | assumption) ?_ | refine br_f (by first | decide | assumption) ?_ | refine br_c (fun _ => ?_) (fun _ => ?_) | refine ⟨by decide, ?_⟩ | refine ⟨by first | assumption | (unfold vp_in; decide) | ((with_reducible (refine vp_in_nI ?_ ?_)) <;> omega), ?_⟩ | fail)
      refine X1_hasCard H hc0 R (fun g2 => ?_) (fun g2 => ?_)
      · repeat' (first | (refine Rules.st H okX1_knock [] ?_; conv => whnf) | refine br_t (by first | decide | assumption) ?_ | refine br_f (by first | decide | assumption) ?_ | refine br_c (fun _ => ?_) (fun _ => ?_) | refine ⟨by decide, ?_⟩ | refine ⟨by first | assumption | (unfold vp_in; decide) | ((with_reducible (refine vp_in_nI ?_ ?_)) <;> omega), ?_⟩ | fail)
        rw [if_neg (fun z => g2 z.2)] at h1
        exact h1 S R Fr.rf
      · repeat' (first | (refine Rules.st H okX1_knock [] ?_; conv => whnf) | refine br_t (by first | decide | assumption) ?_ | refine br_f (by first | decide | assumption) ?_ | refine br_c (fun _ => ?_) (fun _ => ?_) | refine ⟨by decide, ?_⟩ | refine ⟨by first | assumption | (unfold vp_in; decide) | ((with_reducible (refine vp_in_nI ?_ ?_)) <;> omega), ?_⟩ | fail)
        rw [if_pos ⟨g, g2⟩] at h1
        refine X1_pass H hc0 R hm (fun S1 R1 F1 => ?_)
        repeat' (first | (refine Rules.st H okX1_knock [] ?_; conv => whnf) | refine br_t (by first | decide | assumption) ?_ | refine br_f (by first | decide | assumption) ?_ | refine br_c (fun _ => ?_) (fun _ => ?_) | refine ⟨by decide, ?_⟩ | refine ⟨by first | assumption | (unfold vp_in; decide) | ((with_reducible (refine vp_in_nI ?_ ?_)) <;> omega), ?_⟩ | fail)
        refine X1_clockOf H hc0 R1 hm ?_
        repeat' (first | (refine Rules.st H okX1_knock [] ?_; conv => whnf) | refine br_t (by first | decide | assumption) ?_ | refine br_f (by first | decide | assumption) ?_ | refine br_c (fun _ => ?_) (fun _ => ?_) | refine ⟨by decide, ?_⟩ | refine ⟨by first | assumption | (unfold vp_in; decide) | ((with_reducible (refine vp_in_nI ?_ ?_)) <;> omega), ?_⟩ | fail)
        refine X1_guestOut H hc0 R1 hr (fun g3 => ?_) (fun g3 => ?_)
        · repeat' (first | (refine Rules.st H okX1_knock [] ?_; conv => whnf) | refine br_t (by first | decide | assumption) ?_ | refine br_f (by first | decide | assumption) ?_ | refine br_c (fun _ => ?_) (fun _ => ?_) | refine ⟨by decide, ?_⟩ | refine ⟨by first | assumption | (unfold vp_in; decide) | ((with_reducible (refine vp_in_nI ?_ ?_)) <;> omega), ?_⟩ | fail)
          dsimp only at h1
          rw [if_pos g3] at h1
          refine X1_loadOf H hc0 R1 hm ?_
          repeat' (first | (refine Rules.st H okX1_knock [] ?_; conv => whnf) | refine br_t (by first | decide | assumption) ?_ | refine br_f (by first | decide | assumption) ?_ | refine br_c (fun _ => ?_) (fun _ => ?_) | refine ⟨by decide, ?_⟩ | refine ⟨by first | assumption | (unfold vp_in; decide) | ((with_reducible (refine vp_in_nI ?_ ?_)) <;> omega), ?_⟩ | fail)
          refine X1_linenOf H hc0 R1 hr ?_
          repeat' (first | (refine Rules.st H okX1_knock [] ?_; conv => whnf) | refine br_t (by first | decide | assumption) ?_ | refine br_f (by first | decide | assumption) ?_ | refine br_c (fun _ => ?_) (fun _ => ?_) | refine ⟨by decide, ?_⟩ | refine ⟨by first | assumption | (unfold vp_in; decide) | ((with_reducible (refine vp_in_nI ?_ ?_)) <;> omega), ?_⟩ | fail)
          · rw [if_neg (Int32.not_lt.mpr ‹_›)] at h1
            refine X1_pass H hc0 R1 hm (fun S2 R2 F2 => ?_)
            repeat' (first | (refine Rules.st H okX1_knock [] ?_; conv => whnf) | refine br_t (by first | decide | assumption) ?_ | refine br_f (by first | decide | assumption) ?_ | refine br_c (fun _ => ?_) (fun _ => ?_) | refine ⟨by decide, ?_⟩ | refine ⟨by first | assumption | (unfold vp_in; decide) | ((with_reducible (refine vp_in_nI ?_ ?_)) <;> omega), ?_⟩ | fail)
            refine X1_loadOf H hc0 R2 hm ?_
            repeat' (first | (refine Rules.st H okX1_knock [] ?_; conv => whnf) | refine br_t (by first | decide | assumption) ?_ | refine br_f (by first | decide | assumption) ?_ | refine br_c (fun _ => ?_) (fun _ => ?_) | refine ⟨by decide, ?_⟩ | refine ⟨by first | assumption | (unfold vp_in; decide) | ((with_reducible (refine vp_in_nI ?_ ?_)) <;> omega), ?_⟩ | fail)
            refine X1_linenOf H hc0 R2 hr ?_
            repeat' (first | (refine Rules.st H okX1_knock [] ?_; conv => whnf) | refine br_t (by first | decide | assumption) ?_ | refine br_f (by first | decide | assumption) ?_ | refine br_c (fun _ => ?_) (fun _ => ?_) | refine ⟨by decide, ?_⟩ | refine ⟨by first | assumption | (unfold vp_in; decide) | ((with_reducible (refine vp_in_nI ?_ ?_)) <;> omega), ?_⟩ | fail)
            refine X1_setLoad H hc0 R2 hm (fun S3 R3 F3 => ?_)
            repeat' (first | (refine Rules.st H okX1_knock [] ?_; conv => whnf) | refine br_t (by first | decide | assumption) ?_ | refine br_f (by first | decide | assumption) ?_ | refine br_c (fun _ => ?_) (fun _ => ?_) | refine ⟨by decide, ?_⟩ | refine ⟨by first | assumption | (unfold vp_in; decide) | ((with_reducible (refine vp_in_nI ?_ ?_)) <;> omega), ?_⟩ | fail)
            refine X1_changeDone H hc0 R3 (fun S4 R4 F4 => ?_)
            repeat' (first | (refine Rules.st H okX1_knock [] ?_; conv => whnf) | refine br_t (by first | decide | assumption) ?_ | refine br_f (by first | decide | assumption) ?_ | refine br_c (fun _ => ?_) (fun _ => ?_) | refine ⟨by decide, ?_⟩ | refine ⟨by first | assumption | (unfold vp_in; decide) | ((with_reducible (refine vp_in_nI ?_ ?_)) <;> omega), ?_⟩ | fail)
            exact h1 S4 R4 (((F1.tr F2).tr F3).tr F4)
          · rw [if_pos (Int32.not_le.mp ‹_›)] at h1
            refine X1_fetchLinen H hc0 R1 hm (fun S2 R2 F2 => ?_)
            repeat' (first | (refine Rules.st H okX1_knock [] ?_; conv => whnf) | refine br_t (by first | decide | assumption) ?_ | refine br_f (by first | decide | assumption) ?_ | refine br_c (fun _ => ?_) (fun _ => ?_) | refine ⟨by decide, ?_⟩ | refine ⟨by first | assumption | (unfold vp_in; decide) | ((with_reducible (refine vp_in_nI ?_ ?_)) <;> omega), ?_⟩ | fail)
            refine X1_clockOf H hc0 R2 hm ?_
            repeat' (first | (refine Rules.st H okX1_knock [] ?_; conv => whnf) | refine br_t (by first | decide | assumption) ?_ | refine br_f (by first | decide | assumption) ?_ | refine br_c (fun _ => ?_) (fun _ => ?_) | refine ⟨by decide, ?_⟩ | refine ⟨by first | assumption | (unfold vp_in; decide) | ((with_reducible (refine vp_in_nI ?_ ?_)) <;> omega), ?_⟩ | fail)
            refine X1_guestOut H hc0 R2 hr (fun g3 => ?_) (fun g3 => ?_)
            · repeat' (first | (refine Rules.st H okX1_knock [] ?_; conv => whnf) | refine br_t (by first | decide | assumption) ?_ | refine br_f (by first | decide | assumption) ?_ | refine br_c (fun _ => ?_) (fun _ => ?_) | refine ⟨by decide, ?_⟩ | refine ⟨by first | assumption | (unfold vp_in; decide) | ((with_reducible (refine vp_in_nI ?_ ?_)) <;> omega), ?_⟩ | fail)
              rw [if_pos g3] at h1
              refine X1_pass H hc0 R2 hm (fun S3 R3 F3 => ?_)
              repeat' (first | (refine Rules.st H okX1_knock [] ?_; conv => whnf) | refine br_t (by first | decide | assumption) ?_ | refine br_f (by first | decide | assumption) ?_ | refine br_c (fun _ => ?_) (fun _ => ?_) | refine ⟨by decide, ?_⟩ | refine ⟨by first | assumption | (unfold vp_in; decide) | ((with_reducible (refine vp_in_nI ?_ ?_)) <;> omega), ?_⟩ | fail)
              refine X1_loadOf H hc0 R3 hm ?_
              repeat' (first | (refine Rules.st H okX1_knock [] ?_; conv => whnf) | refine br_t (by first | decide | assumption) ?_ | refine br_f (by first | decide | assumption) ?_ | refine br_c (fun _ => ?_) (fun _ => ?_) | refine ⟨by decide, ?_⟩ | refine ⟨by first | assumption | (unfold vp_in; decide) | ((with_reducible (refine vp_in_nI ?_ ?_)) <;> omega), ?_⟩ | fail)
              refine X1_linenOf H hc0 R3 hr ?_
              repeat' (first | (refine Rules.st H okX1_knock [] ?_; conv => whnf) | refine br_t (by first | decide | assumption) ?_ | refine br_f (by first | decide | assumption) ?_ | refine br_c (fun _ => ?_) (fun _ => ?_) | refine ⟨by decide, ?_⟩ | refine ⟨by first | assumption | (unfold vp_in; decide) | ((with_reducible (refine vp_in_nI ?_ ?_)) <;> omega), ?_⟩ | fail)
              refine X1_setLoad H hc0 R3 hm (fun S4 R4 F4 => ?_)
              repeat' (first | (refine Rules.st H okX1_knock [] ?_; conv => whnf) | refine br_t (by first | decide | assumption) ?_ | refine br_f (by first | decide | assumption) ?_ | refine br_c (fun _ => ?_) (fun _ => ?_) | refine ⟨by decide, ?_⟩ | refine ⟨by first | assumption | (unfold vp_in; decide) | ((with_reducible (refine vp_in_nI ?_ ?_)) <;> omega), ?_⟩ | fail)
              refine X1_changeDone H hc0 R4 (fun S5 R5 F5 => ?_)
              repeat' (first | (refine Rules.st H okX1_knock [] ?_; conv => whnf) | refine br_t (by first | decide | assumption) ?_ | refine br_f (by first | decide | assumption) ?_ | refine br_c (fun _ => ?_) (fun _ => ?_) | refine ⟨by decide, ?_⟩ | refine ⟨by first | assumption | (unfold vp_in; decide) | ((with_reducible (refine vp_in_nI ?_ ?_)) <;> omega), ?_⟩ | fail)
              exact h1 S5 R5 ((((F1.tr F2).tr F3).tr F4).tr F5)
            · repeat' (first | (refine Rules.st H okX1_knock [] ?_; conv => whnf) | refine br_t (by first | decide | assumption) ?_ | refine br_f (by first | decide | assumption) ?_ | refine br_c (fun _ => ?_) (fun _ => ?_) | refine ⟨by decide, ?_⟩ | refine ⟨by first | assumption | (unfold vp_in; decide) | ((with_reducible (refine vp_in_nI ?_ ?_)) <;> omega), ?_⟩ | fail)
              rw [if_neg (by rw [g3]; decide)] at h1
              exact h1 S2 R2 (F1.tr F2)
        · repeat' (first | (refine Rules.st H okX1_knock [] ?_; conv => whnf) | refine br_t (by first | decide | assumption) ?_ | refine br_f (by first | decide | assumption) ?_ | refine br_c (fun _ => ?_) (fun _ => ?_) | refine ⟨by decide, ?_⟩ | refine ⟨by first | assumption | (unfold vp_in; decide) | ((with_reducible (refine vp_in_nI ?_ ?_)) <;> omega), ?_⟩ | fail)
          dsimp only at h1
          rw [if_neg (by rw [g3]; decide)] at h1
          exact h1 S1 R1 F1
end CORR3
