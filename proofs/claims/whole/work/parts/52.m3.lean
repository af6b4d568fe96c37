section M3
variable {C : Cst} {T : Nat → Pst → Nat → Lcs → List Value → Mem → Prop}
set_option maxRecDepth 100000 in
theorem bt_2 (x : Int32) (r : Nat) : bt x r = 0 ∨ bt x r = 1 := by
  have h : ∀ y : Int32, y &&& 1 = 0 ∨ y &&& 1 = 1 := fun y => by
    have e : (y &&& 1).toBitVec.toNat = y.toBitVec.toNat % 2 := by
      rw [Int32.toBitVec_and, BitVec.toNat_and]
      exact Nat.and_one_is_mod _
    rcases Nat.mod_two_eq_zero_or_one y.toBitVec.toNat with q | q
    · left
      apply Int32.toBitVec_inj.mp
      apply BitVec.eq_of_toNat_eq
      rw [e, q]; rfl
    · right
      apply Int32.toBitVec_inj.mp
      apply BitVec.eq_of_toNat_eq
      rw [e, q]; rfl
  exact h _
set_option maxRecDepth 100000 in
theorem bt_n0 {x : Int32} {r : Nat} (h : ¬ bt x r = 0) : bt x r = 1 := (bt_2 x r).resolve_left h
set_option maxRecDepth 100000 in
theorem bt_n1 {x : Int32} {r : Nat} (h : ¬ bt x r = 1) : bt x r = 0 := (bt_2 x r).resolve_right h
set_option maxRecDepth 100000 in
theorem bt_10 {x : Int32} {r : Nat} (h : bt x r = 1) : ¬ bt x r = 0 := by rw [h]; decide
/-- the reference's place for a word of the corridor; d: how often one had gone down before -/
def mV (K : Mem) (d : Int32) (a j : Nat) : Int32 := if a = 25 then (if j = 8 then K 0 0 else if j = 21 then K 0 3 else d + K 0 4) else if a = 27 then K 1 j else if a = 28 then K 2 j else if a = 29 then bt (K 0 1) j else if a = 30 then bt (K 0 2) j else K (a - 28) j
def inM (a j : Nat) : Prop := (a = 25 ∧ (j = 8 ∨ j = 21 ∨ j = 22)) ∨ ((a = 27 ∨ a = 28 ∨ a = 29 ∨ a = 30) ∧ j < 8) ∨ ((a = 31 ∨ a = 32 ∨ a = 33) ∧ j < 2)
def RepM (S K : Mem) (d : Int32) : Prop := ∀ a j, inM a j → S a j = mV K d a j
def FrM (S S' : Mem) : Prop := ∀ a j, ¬ inM a j → S' a j = S a j
set_option maxRecDepth 100000 in
theorem FrM.rf {S : Mem} : FrM S S := fun _ _ _ => rfl
set_option maxRecDepth 100000 in
theorem FrM.tr {S S1 S2 : Mem} (h1 : FrM S S1) (h2 : FrM S1 S2) : FrM S S2 := fun a j h => (h2 a j h).trans (h1 a j h)
set_option maxRecDepth 100000 in
theorem FrM.put {S : Mem} {a j : Nat} {v : Int32} (h : inM a j) : FrM S (up S a j v) := fun b i hb => by
  unfold up
  rw [if_neg]
  rintro ⟨rfl, rfl⟩
  exact hb h
set_option maxRecDepth 100000 in
theorem RepM.put {S K K' : Mem} {d : Int32} {a j : Nat} {v : Int32} (h : RepM S K d) (hh : ∀ b i, inM b i → mV K' d b i = if b = a ∧ i = j then v else mV K d b i) : RepM (up S a j v) K' d := fun b i hb => by
  rw [hh b i hb]
  unfold up
  split
  · rfl
  · exact h b i hb
set_option maxRecDepth 100000 in
theorem RepM.put3 {S K : Mem} {d : Int32} {o j : Nat} {v : Int32} (h : RepM S K d) (h3 : 3 ≤ o) (h5 : o ≤ 5) : RepM (up S (28 + o) j v) (up K o j v) d := h.put (fun b i hb => by
  have e : ∀ o' j', o' < 3 → up K o j v o' j' = K o' j' := fun o' j' ho => up_k (by omega)
  unfold inM at hb
  unfold mV
  rw [e 0 0 (by omega), e 0 3 (by omega), e 0 4 (by omega), e 1 i (by omega), e 2 i (by omega), e 0 1 (by omega), e 0 2 (by omega)]
  by_cases hb31 : 31 ≤ b
  · rw [if_neg (by omega), if_neg (by omega), if_neg (by omega), if_neg (by omega), if_neg (by omega)]
    by_cases q : b = 28 + o ∧ i = j
    · rw [if_pos q]
      obtain ⟨q1, q2⟩ := q
      rw [show b - 28 = o by omega, q2]
      exact up_at
    · rw [if_neg q, if_neg (by omega), if_neg (by omega), if_neg (by omega), if_neg (by omega), if_neg (by omega)]
      unfold up
      rw [if_neg (fun z => q ⟨by omega, z.2⟩)]
  · rw [if_neg (show ¬ (b = 28 + o ∧ i = j) by omega)]
    have hx : up K o j v (b - 28) i = K (b - 28) i := up_k (by omega)
    rw [hx])
set_option maxRecDepth 100000 in
theorem RepM.rm {S K : Mem} {d : Int32} (h : RepM S K d) : S 25 8 = K 0 0 := h 25 8 (by unfold inM; omega)
set_option maxRecDepth 100000 in
theorem RepM.st {S K : Mem} {d : Int32} (h : RepM S K d) : S 25 21 = K 0 3 := h 25 21 (by unfold inM; omega)
set_option maxRecDepth 100000 in
theorem RepM.dn {S K : Mem} {d : Int32} (h : RepM S K d) : S 25 22 = d + K 0 4 := h 25 22 (by unfold inM; omega)
set_option maxRecDepth 100000 in
theorem RepM.kd {S K : Mem} {d : Int32} (h : RepM S K d) {r : Nat} (hr : r < 8) : S 27 r = K 1 r := h 27 r (by unfold inM; omega)
set_option maxRecDepth 100000 in
theorem RepM.fg {S K : Mem} {d : Int32} (h : RepM S K d) {r : Nat} (hr : r < 8) : S 28 r = K 2 r := h 28 r (by unfold inM; omega)
set_option maxRecDepth 100000 in
theorem RepM.de {S K : Mem} {d : Int32} (h : RepM S K d) {r : Nat} (hr : r < 8) : S 29 r = bt (K 0 1) r := h 29 r (by unfold inM; omega)
set_option maxRecDepth 100000 in
theorem RepM.cd {S K : Mem} {d : Int32} (h : RepM S K d) {r : Nat} (hr : r < 8) : S 30 r = bt (K 0 2) r := h 30 r (by unfold inM; omega)
set_option maxRecDepth 100000 in
theorem RepM.at {S K : Mem} {d : Int32} (h : RepM S K d) {m : Nat} (hm : m < 2) : S 31 m = K 3 m := h 31 m (by unfold inM; omega)
set_option maxRecDepth 100000 in
theorem RepM.ld {S K : Mem} {d : Int32} (h : RepM S K d) {m : Nat} (hm : m < 2) : S 32 m = K 4 m := h 32 m (by unfold inM; omega)
set_option maxRecDepth 100000 in
theorem RepM.ck {S K : Mem} {d : Int32} (h : RepM S K d) {m : Nat} (hm : m < 2) : S 33 m = K 5 m := h 33 m (by unfold inM; omega)
set_option maxRecDepth 100000 in
theorem X5_isOutBy (H : Rules C T) {k f t : Int32} {S : Mem} {Q : Pst} (h1 : outB k f t = true → Q (some (.int 1)) S) (h0 : outB k f t = false → Q (some (.int 0)) S) : C mX5_isOutBy [.int k, .int f, .int t] S Q := by
  refine Rules.go H (by decide) (Nat.le_of_ble_eq_true rfl) ?_
  repeat' (first | (refine Rules.st H okX5_isOutBy [] ?_; conv => whnf) | refine br_t (by first | decide | assumption) ?_ | refine br_f (by first | decide | assumption) ?_ | refine br_c (fun _ => ?_) (fun _ => ?_) | refine ⟨by decide, ?_⟩ | refine ⟨by first | assumption | (unfold vp_in; decide) | ((with_reducible (refine vp_in_nI ?_ ?_)) <;> omega), ?_⟩ | fail)
  all_goals (try simp only [Int32.not_lt, Int32.not_le] at *)
  all_goals first
    | (refine h1 ?_; simp [outB, *]; done)
    | (refine h0 ?_; simp [outB, *]; done)
    | (refine h0 ?_; simp only [outB]; simp [*]; intro z; exact absurd z (Int32.not_le.mpr ‹_›))
    | exact h0 (by simp only [outB]; simp [*]; intro z; exact absurd z (Int32.not_le.mpr ‹_›))
set_option maxRecDepth 100000 in
theorem X5_work (H : Rules C T) {S K : Mem} {d : Int32} (R : RepM S K d) {r : Nat} (hr : r < 8) {Q : Pst} (h : Q (some (.int (workK K r))) S) : C mX5_work [.ref 25, .int (nI r)] S Q := by
  have h : Q (some (.int (workI (S 27 (nI r).toNatClampNeg) (S 28 (nI r).toNatClampNeg)))) S := by rw [nIc (by omega), R.kd hr, R.fg hr]; exact h
  clear R
  refine Rules.go H (by decide) (Nat.le_of_ble_eq_true rfl) ?_
  repeat' (first | (refine Rules.st H okX5_work [] ?_; conv => whnf) | refine br_t (by first | decide | assumption) ?_ | refine br_f (by first | decide | assumption) ?_ | refine br_c (fun _ => ?_) (fun _ => ?_) | refine ⟨by decide, ?_⟩ | refine ⟨by first | assumption | (unfold vp_in; decide) | ((with_reducible (refine vp_in_nI ?_ ?_)) <;> omega), ?_⟩ | fail)
  all_goals simpa [workI, *] using h
set_option maxRecDepth 100000 in
theorem X5_linen (H : Rules C T) {S K : Mem} {d : Int32} (R : RepM S K d) {r : Nat} (hr : r < 8) {Q : Pst} (h : Q (some (.int (linK K r))) S) : C mX5_linen [.ref 25, .int (nI r)] S Q := by
  have h : Q (some (.int (linenI (S 27 (nI r).toNatClampNeg)))) S := by rw [nIc (by omega), R.kd hr]; exact h
  clear R
  refine Rules.go H (by decide) (Nat.le_of_ble_eq_true rfl) ?_
  repeat' (first | (refine Rules.st H okX5_linen [] ?_; conv => whnf) | refine br_t (by first | decide | assumption) ?_ | refine br_f (by first | decide | assumption) ?_ | refine br_c (fun _ => ?_) (fun _ => ?_) | refine ⟨by decide, ?_⟩ | refine ⟨by first | assumption | (unfold vp_in; decide) | ((with_reducible (refine vp_in_nI ?_ ?_)) <;> omega), ?_⟩ | fail)
  all_goals simpa [linenI, *] using h
set_option maxRecDepth 100000 in
theorem X5_tip (H : Rules C T) {S K : Mem} {d : Int32} (R : RepM S K d) {r : Nat} (hr : r < 8) {Q : Pst} (h : Q (some (.int (tipK K r))) S) : C mX5_tip [.ref 25, .int (nI r)] S Q := by
  have h : Q (some (.int (tipI (S 27 (nI r).toNatClampNeg) (S 28 (nI r).toNatClampNeg)))) S := by rw [nIc (by omega), R.kd hr, R.fg hr]; exact h
  clear R
  refine Rules.go H (by decide) (Nat.le_of_ble_eq_true rfl) ?_
  repeat' (first | (refine Rules.st H okX5_tip [] ?_; conv => whnf) | refine br_t (by first | decide | assumption) ?_ | refine br_f (by first | decide | assumption) ?_ | refine br_c (fun _ => ?_) (fun _ => ?_) | refine ⟨by decide, ?_⟩ | refine ⟨by first | assumption | (unfold vp_in; decide) | ((with_reducible (refine vp_in_nI ?_ ?_)) <;> omega), ?_⟩ | fail)
  all_goals simpa [tipI, *] using h
set_option maxRecDepth 100000 in
theorem X5_isOut (H : Rules C T) {S K : Mem} {d : Int32} (R : RepM S K d) {r : Nat} (hr : r < 8) {t : Int32} {Q : Pst} (h1 : outK K r t = true → Q (some (.int 1)) S) (h0 : outK K r t = false → Q (some (.int 0)) S) : C mX5_isOut [.ref 25, .int (nI r), .int t] S Q := by
  have e3 := R.st
  have e27 := R.kd hr
  have e28 := R.fg hr
  refine Rules.go H (by decide) (Nat.le_of_ble_eq_true rfl) ?_
  repeat' (first | (refine Rules.st H okX5_isOut [] ?_; conv => whnf) | refine br_t (by first | decide | assumption) ?_ | refine br_f (by first | decide | assumption) ?_ | refine br_c (fun _ => ?_) (fun _ => ?_) | refine ⟨by decide, ?_⟩ | refine ⟨by first | assumption | (unfold vp_in; decide) | ((with_reducible (refine vp_in_nI ?_ ?_)) <;> omega), ?_⟩ | fail)
  rw [e3]
  refine X5_has H (fun g => ?_) (fun g => ?_)
  · repeat' (first | (refine Rules.st H okX5_isOut [] ?_; conv => whnf) | refine br_t (by first | decide | assumption) ?_ | refine br_f (by first | decide | assumption) ?_ | refine br_c (fun _ => ?_) (fun _ => ?_) | refine ⟨by decide, ?_⟩ | refine ⟨by first | assumption | (unfold vp_in; decide) | ((with_reducible (refine vp_in_nI ?_ ?_)) <;> omega), ?_⟩ | fail)
    exact h0 (by unfold outK; rw [if_neg (bt_10 g)])
  · have h1 : outB (K 1 r) (K 2 r) t = true → Q (some (.int 1)) S := fun z => h1 (by unfold outK; rw [if_pos (bt_n1 g)]; exact z)
    have h0 : outB (K 1 r) (K 2 r) t = false → Q (some (.int 0)) S := fun z => h0 (by unfold outK; rw [if_pos (bt_n1 g)]; exact z)
    repeat' (first | (refine Rules.st H okX5_isOut [] ?_; conv => whnf) | refine br_t (by first | decide | assumption) ?_ | refine br_f (by first | decide | assumption) ?_ | refine br_c (fun _ => ?_) (fun _ => ?_) | refine ⟨by decide, ?_⟩ | refine ⟨by first | assumption | (unfold vp_in; decide) | ((with_reducible (refine vp_in_nI ?_ ?_)) <;> omega), ?_⟩ | fail)
    rw [nIc (by omega), e27, e28]
    refine X5_isOutBy H (fun z => ?_) (fun z => ?_)
    · repeat' (first | (refine Rules.st H okX5_isOut [] ?_; conv => whnf) | refine br_t (by first | decide | assumption) ?_ | refine br_f (by first | decide | assumption) ?_ | refine br_c (fun _ => ?_) (fun _ => ?_) | refine ⟨by decide, ?_⟩ | refine ⟨by first | assumption | (unfold vp_in; decide) | ((with_reducible (refine vp_in_nI ?_ ?_)) <;> omega), ?_⟩ | fail)
      exact h1 z
    · repeat' (first | (refine Rules.st H okX5_isOut [] ?_; conv => whnf) | refine br_t (by first | decide | assumption) ?_ | refine br_f (by first | decide | assumption) ?_ | refine br_c (fun _ => ?_) (fun _ => ?_) | refine ⟨by decide, ?_⟩ | refine ⟨by first | assumption | (unfold vp_in; decide) | ((with_reducible (refine vp_in_nI ?_ ?_)) <;> omega), ?_⟩ | fail)
      exact h0 z
set_option maxRecDepth 100000 in
theorem X5_later (H : Rules C T) {S K : Mem} {d : Int32} (R : RepM S K d) {Q : Pst} (h : Q (some (.int (laterK K))) S) : C mX5_later [.ref 25] S Q := by
  have h : Q (some (.int (maxI (S 33 (0 : Int32).toNatClampNeg) (S 33 (1 : Int32).toNatClampNeg)))) S := by
    rw [show (0 : Int32).toNatClampNeg = 0 from rfl, show (1 : Int32).toNatClampNeg = 1 from rfl, R.ck (m := 0) (by omega), R.ck (m := 1) (by omega)]
    exact h
  unfold maxI at h
  refine Rules.go H (by decide) (Nat.le_of_ble_eq_true rfl) ?_
  repeat' (first | (refine Rules.st H okX5_later [] ?_; conv => whnf) | refine br_t (by first | decide | assumption) ?_ | refine br_f (by first | decide | assumption) ?_ | refine br_c (fun _ => ?_) (fun _ => ?_) | refine ⟨by decide, ?_⟩ | refine ⟨by first | assumption | (unfold vp_in; decide) | ((with_reducible (refine vp_in_nI ?_ ?_)) <;> omega), ?_⟩ | fail)
  · by_cases q : S 33 (0 : Int32).toNatClampNeg < S 33 (1 : Int32).toNatClampNeg
    · rw [if_pos q] at h; exact h
    · rw [if_neg q] at h
      have : S 33 (0 : Int32).toNatClampNeg = S 33 (1 : Int32).toNatClampNeg := Int32.le_antisymm (by assumption) (Int32.not_lt.mp q)
      rw [this] at h
      exact h
  · rw [if_neg (by
      have g : ¬ S 33 (0 : Int32).toNatClampNeg ≤ S 33 (1 : Int32).toNatClampNeg := by assumption
      exact fun q => g (Int32.le_of_lt q))] at h
    exact h
end M3
