section X10
variable {C : Cst} {T : Nat → Pst → Nat → Lcs → List Value → Mem → Prop}
/-- nothing but scratch and what ex names has changed -/
def ScO (ex : Nat → Nat → Prop) (S S' : Mem) : Prop := ∀ a j, ¬ scrX a → ¬ ex a j → S' a j = S a j
set_option maxRecDepth 100000 in
theorem ScO.x {ex : Nat → Nat → Prop} {S S' : Mem} (h : ScX 0 S S') : ScO ex S S' := fun a j ha _ => h.at ha j
set_option maxRecDepth 100000 in
theorem ScO.tr {ex : Nat → Nat → Prop} {S S1 S2 : Mem} (h1 : ScO ex S S1) (h2 : ScO ex S1 S2) : ScO ex S S2 := fun a j ha he => (h2 a j ha he).trans (h1 a j ha he)
set_option maxRecDepth 100000 in
theorem ScO.put {ex : Nat → Nat → Prop} {S : Mem} {a j : Nat} {v : Int32} (h : ex a j) : ScO ex S (up S a j v) := fun b i _ he => by
  unfold up
  rw [if_neg]
  rintro ⟨rfl, rfl⟩
  exact he h
set_option maxRecDepth 100000 in
theorem ScO.fr {ex : Nat → Nat → Prop} {S S' : Mem} {x y : Nat} (F : Fr x y S S') (h : ∀ a j, x ≤ a → a ≤ y → ex a j) : ScO ex S S' := fun b i _ he => F b i (by
  by_cases h1 : b < x
  · exact Or.inl h1
  · refine Or.inr ?_
    by_cases h2 : y < b
    · exact h2
    · exact absurd (h b i (by omega) (by omega)) he)
def exRow (a j : Nat) : Prop := a = 21 ∨ (a = 0 ∧ j = 6)
set_option maxRecDepth 100000 in
theorem X4_row (H : Rules C T) {S : Mem} {row : Nat → Int32} {q : Nat} (XQ : XR S row q) {v : Int32} {Q : Pst} (hb : v < 0 → AnsX S (4, -4) Q) (ha : ¬ v < 0 → (99 < v ∨ q = 16) → AnsX S (6, -6) Q) (h1 : ¬ v < 0 → ¬ 99 < v → q < 16 → ∀ S', XR S' (upd row q v) (q + 1) → ScO exRow S S' → Q (some (.int (nI (q + 1)))) S') : C mX4_row [.ref 0, .int v] S Q := by
  obtain ⟨hq, h6, hrow⟩ := XQ
  by_cases hv : v < 0
  · have h1 := hb hv
    have hv' : ¬ 0 ≤ v := Int32.not_le.mpr hv
    refine Rules.go H (by decide) (Nat.le_of_ble_eq_true rfl) ?_
    repeat' (first | (refine Rules.st H okX4_row [] ?_; conv => whnf) | refine br_t (by first | decide | assumption) ?_ | refine br_f (by first | decide | assumption) ?_ | refine br_c (fun _ => ?_) (fun _ => ?_) | refine ⟨by decide, ?_⟩ | refine ⟨by first | assumption | (unfold vp_in; decide) | ((with_reducible (refine vp_in_nI ?_ ?_)) <;> omega), ?_⟩ | fail)
    refine X4_ref H (ScX.rf) (k := 4) (by omega) (by omega) (by decide) (fun S' hS' => ?_)
    repeat' (first | (refine Rules.st H okX4_row [] ?_; conv => whnf) | refine br_t (by first | decide | assumption) ?_ | refine br_f (by first | decide | assumption) ?_ | refine br_c (fun _ => ?_) (fun _ => ?_) | refine ⟨by decide, ?_⟩ | refine ⟨by first | assumption | (unfold vp_in; decide) | ((with_reducible (refine vp_in_nI ?_ ?_)) <;> omega), ?_⟩ | fail)
    exact h1 S' hS'
  · have hv0 : 0 ≤ v := Int32.not_lt.mp hv
    by_cases hv9 : 99 < v
    · have h1 := ha hv (Or.inl hv9)
      have hn9 : ¬ v ≤ 99 := Int32.not_le.mpr hv9
      refine Rules.go H (by decide) (Nat.le_of_ble_eq_true rfl) ?_
      repeat' (first | (refine Rules.st H okX4_row [] ?_; conv => whnf) | refine br_t (by first | decide | assumption) ?_ | refine br_f (by first | decide | assumption) ?_ | refine br_c (fun _ => ?_) (fun _ => ?_) | refine ⟨by decide, ?_⟩ | refine ⟨by first | assumption | (unfold vp_in; decide) | ((with_reducible (refine vp_in_nI ?_ ?_)) <;> omega), ?_⟩ | fail)
      refine X4_ref H (ScX.rf) (k := 6) (by omega) (by omega) (by decide) (fun S' hS' => ?_)
      repeat' (first | (refine Rules.st H okX4_row [] ?_; conv => whnf) | refine br_t (by first | decide | assumption) ?_ | refine br_f (by first | decide | assumption) ?_ | refine br_c (fun _ => ?_) (fun _ => ?_) | refine ⟨by decide, ?_⟩ | refine ⟨by first | assumption | (unfold vp_in; decide) | ((with_reducible (refine vp_in_nI ?_ ?_)) <;> omega), ?_⟩ | fail)
      exact h1 S' hS'
    · have hl9 : v ≤ 99 := Int32.not_lt.mp hv9
      have h60 : ¬ S 0 6 < 0 := by rw [h6]; exact nI_pos (by omega)
      by_cases h16 : q = 16
      · have h1 := ha hv (Or.inr h16)
        have hc : ¬ S 0 6 < Int32.ofNat 16 := by rw [h6, h16]; decide
        refine Rules.go H (by decide) (Nat.le_of_ble_eq_true rfl) ?_
        repeat' (first | (refine Rules.st H okX4_row [] ?_; conv => whnf) | refine br_t (by first | decide | assumption) ?_ | refine br_f (by first | decide | assumption) ?_ | refine br_c (fun _ => ?_) (fun _ => ?_) | refine ⟨by decide, ?_⟩ | refine ⟨by first | assumption | (unfold vp_in; decide) | ((with_reducible (refine vp_in_nI ?_ ?_)) <;> omega), ?_⟩ | fail)
        refine X4_ref H (ScX.rf) (k := 6) (by omega) (by omega) (by decide) (fun S' hS' => ?_)
        repeat' (first | (refine Rules.st H okX4_row [] ?_; conv => whnf) | refine br_t (by first | decide | assumption) ?_ | refine br_f (by first | decide | assumption) ?_ | refine br_c (fun _ => ?_) (fun _ => ?_) | refine ⟨by decide, ?_⟩ | refine ⟨by first | assumption | (unfold vp_in; decide) | ((with_reducible (refine vp_in_nI ?_ ?_)) <;> omega), ?_⟩ | fail)
        exact h1 S' hS'
      · have hq16 : q < 16 := by omega
        have hc : S 0 6 < Int32.ofNat 16 := by rw [h6]; exact nI_lt hq16 (by omega)
        have hvp : vp_in (S 0 6) 16 := by rw [h6]; exact vp_in_nI hq16 (by omega)
        have fin := h1 hv hv9 hq16 (up (up S 21 (S 0 6).toNatClampNeg v) 0 6 (S 0 6 + 1)) (by
          refine ⟨by omega, ?_, fun j hj => ?_⟩
          · rw [up_at, h6, nI_1]
          · rw [up_k (by omega), h6, nIc (by omega)]
            by_cases hjq : j = q
            · rw [hjq, up_at]; simp [upd]
            · rw [up_j hjq, hrow j hj]; simp [upd, hjq]) (ScO.tr (ScO.put (Or.inl rfl)) (ScO.put (Or.inr ⟨rfl, rfl⟩)))
        rw [← nI_1, ← h6] at fin
        refine Rules.go H (by decide) (Nat.le_of_ble_eq_true rfl) ?_
        repeat' (first | (refine Rules.st H okX4_row [] ?_; conv => whnf) | refine br_t (by first | decide | assumption) ?_ | refine br_f (by first | decide | assumption) ?_ | refine br_c (fun _ => ?_) (fun _ => ?_) | refine ⟨by decide, ?_⟩ | refine ⟨by first | assumption | (unfold vp_in; decide) | ((with_reducible (refine vp_in_nI ?_ ?_)) <;> omega), ?_⟩ | fail)
        exact fin
set_option maxRecDepth 100000 in
theorem X4_clear (H : Rules C T) {S : Mem} {row : Nat → Int32} {q : Nat} (XQ : XR S row q) {Q : Pst} (h1 : ∀ S', XR S' row 0 → ScO exRow S S' → Q (some (.int (nI q))) S') : C mX4_clear [.ref 0] S Q := by
  obtain ⟨hq, h6, hrow⟩ := XQ
  have fin := h1 (up S 0 6 0) ⟨by omega, up_at, fun j hj => by rw [up_k (by omega)]; exact hrow j hj⟩ (ScO.put (Or.inr ⟨rfl, rfl⟩))
  rw [← h6] at fin
  refine Rules.go H (by decide) (Nat.le_of_ble_eq_true rfl) ?_
  repeat' (first | (refine Rules.st H okX4_clear [] ?_; conv => whnf) | refine br_t (by first | decide | assumption) ?_ | refine br_f (by first | decide | assumption) ?_ | refine br_c (fun _ => ?_) (fun _ => ?_) | refine ⟨by decide, ?_⟩ | refine ⟨by first | assumption | (unfold vp_in; decide) | ((with_reducible (refine vp_in_nI ?_ ?_)) <;> omega), ?_⟩ | fail)
  exact fin
/-! judged -/
def judK (K : Mem) (n : Nat) (row : Nat → Int32) : Nat → Nat → Int32
  | 0, _ => -9
  | k + 1, i => if okR n (row i) ∧ ¬ bt (K 0 1) (ix (row i)) = 0 then judK K n row k (i + 1) else nI i
set_option maxRecDepth 100000 in
theorem X4_judge_e (H : Rules C T) {S : Mem} {a : Int32} {i : Nat} {x : Option Value} {Q : Pst} (he : S 0 6 ≤ nI i ∨ ¬ a = -9) (h1 : Q (some (.int a)) (up S 0 6 0)) : T mX4_judge Q 10 [some (.ref 0), some (.int a), some (.int (nI i)), x] [] S := by
  skip
  repeat' (first | (refine Rules.st H okX4_judge [10] ?_; conv => whnf) | refine br_t (by first | decide | assumption) ?_ | refine br_f (by first | decide | assumption) ?_ | refine br_c (fun _ => ?_) (fun _ => ?_) | refine ⟨by decide, ?_⟩ | refine ⟨by first | assumption | (unfold vp_in; decide) | ((with_reducible (refine vp_in_nI ?_ ?_)) <;> omega), ?_⟩ | fail)
  · exact h1
  · have g1 : ¬ S 0 6 ≤ nI i := by assumption
    have g2 : a = -9 := by assumption
    exact (he.elim g1 (fun z => z g2)).elim
  · exact h1
set_option maxRecDepth 100000 in
theorem X4_judge_l (H : Rules C T) {K' : Mem} {n q : Nat} (hn8 : n ≤ 8) (hq : q ≤ 16) {row : Nat → Int32} {S : Mem} (h6 : S 0 6 = nI q) (hrow : ∀ j, j < 16 → S 21 j = row j) (R7 : RepC 7 S K') (hn : K' 0 0 = nI n) {Q : Pst} : ∀ (k i : Nat) (x : Option Value), i + k = q → Q (some (.int (judK K' n row k i))) (up S 0 6 0) → T mX4_judge Q 10 [some (.ref 0), some (.int (-9)), some (.int (nI i)), x] [] S := by
  intro k
  induction k with
  | zero =>
    intro i x hi h1
    exact X4_judge_e H (Or.inl (by rw [h6]; exact nI_le (by omega) (by omega))) h1
  | succ k ih =>
    intro i x hi h1
    have hge : ¬ S 0 6 ≤ nI i := by rw [h6]; exact nI_ge (by omega) (by omega)
    unfold judK at h1
    have bad : ∀ y : Int32, Q (some (.int (nI i))) (up S 0 6 0) → Halt (T mX4_judge Q 10 [some (.ref 0), some (.int (nI i)), some (.int (nI i + 1)), some (.int y)] [] S) := fun y h => Halt.mk (by
      rw [nI_1]
      exact X4_judge_e H (Or.inr (nI_n9 i (by omega))) h)
    skip
    repeat' (first | (refine Rules.st H okX4_judge [10] ?_; conv => whnf) | refine br_t (by first | decide | assumption) ?_ | refine br_f (by first | decide | assumption) ?_ | refine br_c (fun _ => ?_) (fun _ => ?_) | refine ⟨by decide, ?_⟩ | refine ⟨by first | assumption | (unfold vp_in; decide) | ((with_reducible (refine vp_in_nI ?_ ?_)) <;> omega), ?_⟩ | fail)
    refine X4_numberAt H (by omega) ?_
    rw [hrow i (by omega)]
    repeat' (first | (refine Rules.st H okX4_judge [10] ?_; conv => whnf) | refine br_t (by first | decide | assumption) ?_ | refine br_f (by first | decide | assumption) ?_ | refine br_c (fun _ => ?_) (fun _ => ?_) | refine ⟨by decide, ?_⟩ | refine ⟨by first | assumption | (unfold vp_in; decide) | ((with_reducible (refine vp_in_nI ?_ ?_)) <;> omega), ?_⟩ | fail)
    refine X1_hasRoom H (Or.inr (Or.inl rfl)) R7 hn hn8 (fun r hr e => ?_) (fun hno => ?_)
    · rw [e] at h1 ⊢
      rw [show ix (nI r) = r from nIc (by omega)] at h1
      repeat' (first | (refine Rules.st H okX4_judge [10] ?_; conv => whnf) | refine br_t (by first | decide | assumption) ?_ | refine br_f (by first | decide | assumption) ?_ | refine br_c (fun _ => ?_) (fun _ => ?_) | refine ⟨by decide, ?_⟩ | refine ⟨by first | assumption | (unfold vp_in; decide) | ((with_reducible (refine vp_in_nI ?_ ?_)) <;> omega), ?_⟩ | fail)
      refine X1_isDone H (Or.inr (Or.inl rfl)) R7 (fun g => ?_) (fun g => ?_)
      · rw [if_pos ⟨okR_nI hn8 hr, g⟩] at h1
        repeat' (first | (refine Rules.st H okX4_judge [10] ?_; conv => whnf) | refine br_t (by first | decide | assumption) ?_ | refine br_f (by first | decide | assumption) ?_ | refine br_c (fun _ => ?_) (fun _ => ?_) | refine ⟨by decide, ?_⟩ | refine ⟨by first | assumption | (unfold vp_in; decide) | ((with_reducible (refine vp_in_nI ?_ ?_)) <;> omega), ?_⟩ | fail)
        refine Halt.mk ?_
        show T mX4_judge Q 10 [some (.ref 0), some (.int (-9)), some (.int (nI i + 1)), some (.int (nI r))] [] S
        rw [nI_1]
        exact ih (i + 1) _ (by omega) h1
      · rw [if_neg (fun z => z.2 g)] at h1
        repeat' (first | (refine Rules.st H okX4_judge [10] ?_; conv => whnf) | refine br_t (by first | decide | assumption) ?_ | refine br_f (by first | decide | assumption) ?_ | refine br_c (fun _ => ?_) (fun _ => ?_) | refine ⟨by decide, ?_⟩ | refine ⟨by first | assumption | (unfold vp_in; decide) | ((with_reducible (refine vp_in_nI ?_ ?_)) <;> omega), ?_⟩ | fail)
        exact bad _ h1
    · rw [if_neg (fun z => okR_neg hn8 hno z.1)] at h1
      repeat' (first | (refine Rules.st H okX4_judge [10] ?_; conv => whnf) | refine br_t (by first | decide | assumption) ?_ | refine br_f (by first | decide | assumption) ?_ | refine br_c (fun _ => ?_) (fun _ => ?_) | refine ⟨by decide, ?_⟩ | refine ⟨by first | assumption | (unfold vp_in; decide) | ((with_reducible (refine vp_in_nI ?_ ?_)) <;> omega), ?_⟩ | fail)
      exact bad _ h1
set_option maxRecDepth 100000 in
theorem rowK_n (n m : Nat) (row : Nat → Int32) : ∀ (k i : Nat) (K : Mem), rowK n m row k i K 0 0 = K 0 0
  | 0, _, _ => rfl
  | k + 1, i, K => by
    unfold rowK
    rw [rowK_n]
    split
    · exact visitK_n K m _
    · rfl
set_option maxRecDepth 100000 in
theorem X4_judge (H : Rules C T) {S K : Mem} {n : Nat} (X : XK S K n) {row : Nat → Int32} {q : Nat} (XQ : XR S row q) {Q : Pst} (h1 : ∀ S', XR S' row 0 → ScO exRow S S' → Q (some (.int (judK (rowK n 0 row q 0 K) n row q 0))) S') : C mX4_judge [.ref 0] S Q := by
  obtain ⟨R, hn, hn8, hz⟩ := X
  obtain ⟨hq, h6, hrow⟩ := XQ
  refine Rules.go H (by decide) (Nat.le_of_ble_eq_true rfl) ?_
  repeat' (first | (refine Rules.st H okX4_judge [10] ?_; conv => whnf) | refine br_t (by first | decide | assumption) ?_ | refine br_f (by first | decide | assumption) ?_ | refine br_c (fun _ => ?_) (fun _ => ?_) | refine ⟨by decide, ?_⟩ | refine ⟨by first | assumption | (unfold vp_in; decide) | ((with_reducible (refine vp_in_nI ?_ ?_)) <;> omega), ?_⟩ | fail)
  refine X4_thinkRow H hn8 (m := 0) (by omega) hq h6 hrow R hz hn (fun S1 R1 F1 => ?_)
  repeat' (first | (refine Rules.st H okX4_judge [10] ?_; conv => whnf) | refine br_t (by first | decide | assumption) ?_ | refine br_f (by first | decide | assumption) ?_ | refine br_c (fun _ => ?_) (fun _ => ?_) | refine ⟨by decide, ?_⟩ | refine ⟨by first | assumption | (unfold vp_in; decide) | ((with_reducible (refine vp_in_nI ?_ ?_)) <;> omega), ?_⟩ | fail)
  have h6' : S1 0 6 = nI q := by rw [F1 0 6 (by omega)]; exact h6
  have hrow' : ∀ j, j < 16 → S1 21 j = row j := fun j hj => by rw [F1 21 j (by omega)]; exact hrow j hj
  refine Halt.mk (X4_judge_l H hn8 hq h6' hrow' R1 ((rowK_n _ _ _ _ _ _).trans hn) q 0 none (by omega) ?_)
  exact h1 _ ⟨by omega, up_at, fun j hj => by rw [up_k (by omega)]; exact hrow' j hj⟩ (ScO.tr (ScO.x (ScX.f7 F1)) (ScO.put (Or.inr ⟨rfl, rfl⟩)))
/-! the image -/
def exImg (a j : Nat) : Prop := (13 ≤ a ∧ a ≤ 18) ∨ (a = 0 ∧ j = 3)
set_option maxRecDepth 100000 in
theorem X4_image (H : Rules C T) {S K : Mem} {n : Nat} (X : XK S K n) {Q : Pst} (h1 : ∀ S', RepC 13 S' K → S' 0 3 = 1 → ScO exImg S S' → Q (some (.int (pcI (K 0 1)))) S') : C mX4_image [.ref 0] S Q := by
  obtain ⟨R, hn, hn8, hz⟩ := X
  refine Rules.go H (by decide) (Nat.le_of_ble_eq_true rfl) ?_
  repeat' (first | (refine Rules.st H okX4_image [] ?_; conv => whnf) | refine br_t (by first | decide | assumption) ?_ | refine br_f (by first | decide | assumption) ?_ | refine br_c (fun _ => ?_) (fun _ => ?_) | refine ⟨by decide, ?_⟩ | refine ⟨by first | assumption | (unfold vp_in; decide) | ((with_reducible (refine vp_in_nI ?_ ?_)) <;> omega), ?_⟩ | fail)
  refine X1_become H (Or.inr (Or.inr (Or.inl ⟨rfl, rfl⟩))) R (fun S1 R1 F1 => ?_)
  repeat' (first | (refine Rules.st H okX4_image [] ?_; conv => whnf) | refine br_t (by first | decide | assumption) ?_ | refine br_f (by first | decide | assumption) ?_ | refine br_c (fun _ => ?_) (fun _ => ?_) | refine ⟨by decide, ?_⟩ | refine ⟨by first | assumption | (unfold vp_in; decide) | ((with_reducible (refine vp_in_nI ?_ ?_)) <;> omega), ?_⟩ | fail)
  have R0 : RepC 1 (up S1 0 3 1) K := (R.fr F1 (by omega)).fr (Fr.put (a := 0) (b := 0) (by omega) (by omega)) (by omega)
  refine X1_doneCount H (Or.inl rfl) R0 ?_
  repeat' (first | (refine Rules.st H okX4_image [] ?_; conv => whnf) | refine br_t (by first | decide | assumption) ?_ | refine br_f (by first | decide | assumption) ?_ | refine br_c (fun _ => ?_) (fun _ => ?_) | refine ⟨by decide, ?_⟩ | refine ⟨by first | assumption | (unfold vp_in; decide) | ((with_reducible (refine vp_in_nI ?_ ?_)) <;> omega), ?_⟩ | fail)
  exact h1 _ ((R1.fresh hz).fr (Fr.put (a := 0) (b := 0) (by omega) (by omega)) (by omega)) up_at (ScO.tr (ScO.fr F1 (fun a j h1 h2 => Or.inl ⟨h1, h2⟩)) (ScO.put (Or.inr ⟨rfl, rfl⟩)))
def exNow (a _j : Nat) : Prop := 1 ≤ a ∧ a ≤ 6
set_option maxRecDepth 100000 in
theorem X4_on (H : Rules C T) {S Kk : Mem} (R : RepC 13 S Kk) (hz : KZ Kk) {Q : Pst} (h0 : S 0 3 = 0 → AnsX S (3, -3) Q) (h1 : ¬ S 0 3 = 0 → ∀ S', RepC 1 S' Kk → ScO exNow S S' → Q (some (.int (pcI (Kk 0 1)))) S') : C mX4_on [.ref 0] S Q := by
  refine Rules.go H (by decide) (Nat.le_of_ble_eq_true rfl) ?_
  repeat' (first | (refine Rules.st H okX4_on [] ?_; conv => whnf) | refine br_t (by first | decide | assumption) ?_ | refine br_f (by first | decide | assumption) ?_ | refine br_c (fun _ => ?_) (fun _ => ?_) | refine ⟨by decide, ?_⟩ | refine ⟨by first | assumption | (unfold vp_in; decide) | ((with_reducible (refine vp_in_nI ?_ ?_)) <;> omega), ?_⟩ | fail)
  · have h1 := h0 (by assumption)
    refine X4_ref H (ScX.rf) (k := 3) (by omega) (by omega) (by decide) (fun S' hS' => ?_)
    repeat' (first | (refine Rules.st H okX4_on [] ?_; conv => whnf) | refine br_t (by first | decide | assumption) ?_ | refine br_f (by first | decide | assumption) ?_ | refine br_c (fun _ => ?_) (fun _ => ?_) | refine ⟨by decide, ?_⟩ | refine ⟨by first | assumption | (unfold vp_in; decide) | ((with_reducible (refine vp_in_nI ?_ ?_)) <;> omega), ?_⟩ | fail)
    exact h1 S' hS'
  · have h1 := h1 (by assumption)
    refine X1_become H (Or.inr (Or.inr (Or.inr ⟨rfl, rfl⟩))) R (fun S1 R1 F1 => ?_)
    repeat' (first | (refine Rules.st H okX4_on [] ?_; conv => whnf) | refine br_t (by first | decide | assumption) ?_ | refine br_f (by first | decide | assumption) ?_ | refine br_c (fun _ => ?_) (fun _ => ?_) | refine ⟨by decide, ?_⟩ | refine ⟨by first | assumption | (unfold vp_in; decide) | ((with_reducible (refine vp_in_nI ?_ ?_)) <;> omega), ?_⟩ | fail)
    refine X1_doneCount H (Or.inl rfl) (R1.fresh hz) ?_
    repeat' (first | (refine Rules.st H okX4_on [] ?_; conv => whnf) | refine br_t (by first | decide | assumption) ?_ | refine br_f (by first | decide | assumption) ?_ | refine br_c (fun _ => ?_) (fun _ => ?_) | refine ⟨by decide, ?_⟩ | refine ⟨by first | assumption | (unfold vp_in; decide) | ((with_reducible (refine vp_in_nI ?_ ?_)) <;> omega), ?_⟩ | fail)
    exact h1 S1 (R1.fresh hz) (ScO.fr F1 (fun a j h1 h2 => ⟨h1, h2⟩))
/-! letters -/
def XT (S : Mem) (l : Nat) : Prop := l ≤ 96 ∧ S 19 1 = nI l
set_option maxRecDepth 100000 in
theorem X3_length (H : Rules C T) {S : Mem} {Q : Pst} (h1 : Q (some (.int (S 19 1))) S) : C mX3_length [.ref 19] S Q := by
  refine Rules.go H (by decide) (Nat.le_of_ble_eq_true rfl) ?_
  repeat' (first | (refine Rules.st H okX3_length [] ?_; conv => whnf) | refine br_t (by first | decide | assumption) ?_ | refine br_f (by first | decide | assumption) ?_ | refine br_c (fun _ => ?_) (fun _ => ?_) | refine ⟨by decide, ?_⟩ | refine ⟨by first | assumption | (unfold vp_in; decide) | ((with_reducible (refine vp_in_nI ?_ ?_)) <;> omega), ?_⟩ | fail)
  exact h1
set_option maxRecDepth 100000 in
theorem X3_isFull (H : Rules C T) {S : Mem} {l : Nat} (X : XT S l) {Q : Pst} (h1 : l = 96 → Q (some (.int 1)) S) (h0 : l < 96 → Q (some (.int 0)) S) : C mX3_isFull [.ref 19] S Q := by
  obtain ⟨hl, e⟩ := X
  by_cases h : l = 96
  · have hc : ¬ S 19 1 < Int32.ofNat 96 := by rw [e, h]; decide
    refine Rules.go H (by decide) (Nat.le_of_ble_eq_true rfl) ?_
    repeat' (first | (refine Rules.st H okX3_isFull [] ?_; conv => whnf) | refine br_t (by first | decide | assumption) ?_ | refine br_f (by first | decide | assumption) ?_ | refine br_c (fun _ => ?_) (fun _ => ?_) | refine ⟨by decide, ?_⟩ | refine ⟨by first | assumption | (unfold vp_in; decide) | ((with_reducible (refine vp_in_nI ?_ ?_)) <;> omega), ?_⟩ | fail)
    exact h1 h
  · have hc : S 19 1 < Int32.ofNat 96 := by rw [e]; exact nI_lt (by omega) (by omega)
    refine Rules.go H (by decide) (Nat.le_of_ble_eq_true rfl) ?_
    repeat' (first | (refine Rules.st H okX3_isFull [] ?_; conv => whnf) | refine br_t (by first | decide | assumption) ?_ | refine br_f (by first | decide | assumption) ?_ | refine br_c (fun _ => ?_) (fun _ => ?_) | refine ⟨by decide, ?_⟩ | refine ⟨by first | assumption | (unfold vp_in; decide) | ((with_reducible (refine vp_in_nI ?_ ?_)) <;> omega), ?_⟩ | fail)
    exact h0 (by omega)
set_option maxRecDepth 100000 in
theorem X3_take (H : Rules C T) {S : Mem} {l : Nat} (X : XT S l) (hl : l < 96) {c : Int32} {Q : Pst} (h1 : Q (some (.int (nI (l + 1)))) (up (up S 20 l c) 19 1 (nI (l + 1)))) : C mX3_take [.ref 19, .int c] S Q := by
  obtain ⟨hl0, e⟩ := X
  have c1 : ¬ S 19 1 < 0 := by rw [e]; exact nI_pos (by omega)
  have c2 : ¬ Int32.ofNat 96 ≤ S 19 1 := by rw [e]; exact nI_ge hl (by omega)
  have c3 : vp_in (S 19 1) 96 := by rw [e]; exact vp_in_nI hl (by omega)
  have h1' : Q (some (.int (S 19 1 + 1))) (up (up S 20 (S 19 1).toNatClampNeg c) 19 1 (S 19 1 + 1)) := by
    rw [e, nIc (by omega), nI_1]; exact h1
  refine Rules.go H (by decide) (Nat.le_of_ble_eq_true rfl) ?_
  repeat' (first | (refine Rules.st H okX3_take [] ?_; conv => whnf) | refine br_t (by first | decide | assumption) ?_ | refine br_f (by first | decide | assumption) ?_ | refine br_c (fun _ => ?_) (fun _ => ?_) | refine ⟨by decide, ?_⟩ | refine ⟨by first | assumption | (unfold vp_in; decide) | ((with_reducible (refine vp_in_nI ?_ ?_)) <;> omega), ?_⟩ | fail)
  exact h1'
set_option maxRecDepth 100000 in
theorem X3_forget (H : Rules C T) {S : Mem} {Q : Pst} (h1 : Q none (up S 19 1 0)) : C mX3_forget [.ref 19] S Q := by
  refine Rules.go H (by decide) (Nat.le_of_ble_eq_true rfl) ?_
  repeat' (first | (refine Rules.st H okX3_forget [] ?_; conv => whnf) | refine br_t (by first | decide | assumption) ?_ | refine br_f (by first | decide | assumption) ?_ | refine br_c (fun _ => ?_) (fun _ => ?_) | refine ⟨by decide, ?_⟩ | refine ⟨by first | assumption | (unfold vp_in; decide) | ((with_reducible (refine vp_in_nI ?_ ?_)) <;> omega), ?_⟩ | fail)
  exact h1
def exLet (a j : Nat) : Prop := a = 20 ∨ (a = 19 ∧ j = 1)
set_option maxRecDepth 100000 in
theorem X4_letter (H : Rules C T) {S : Mem} {l : Nat} (X : XT S l) {c : Int32} {Q : Pst} (hb : c < 0 → AnsX S (4, -4) Q) (ha : ¬ c < 0 → (255 < c ∨ l = 96) → AnsX S (6, -6) Q) (h1 : ¬ c < 0 → ¬ 255 < c → l < 96 → Q (some (.int (nI (l + 1)))) (up (up S 20 l c) 19 1 (nI (l + 1)))) : C mX4_letter [.ref 0, .int c] S Q := by
  refine Rules.go H (by decide) (Nat.le_of_ble_eq_true rfl) ?_
  repeat' (first | (refine Rules.st H okX4_letter [] ?_; conv => whnf) | refine br_t (by first | decide | assumption) ?_ | refine br_f (by first | decide | assumption) ?_ | refine br_c (fun _ => ?_) (fun _ => ?_) | refine ⟨by decide, ?_⟩ | refine ⟨by first | assumption | (unfold vp_in; decide) | ((with_reducible (refine vp_in_nI ?_ ?_)) <;> omega), ?_⟩ | fail)
  · have g1 : 0 ≤ c := by assumption
    have g2 : 255 < c := by assumption
    have h1 := ha (Int32.not_lt.mpr g1) (Or.inl g2)
    refine X4_ref H (ScX.rf) (k := 6) (by omega) (by omega) (by decide) (fun S' hS' => ?_)
    repeat' (first | (refine Rules.st H okX4_letter [] ?_; conv => whnf) | refine br_t (by first | decide | assumption) ?_ | refine br_f (by first | decide | assumption) ?_ | refine br_c (fun _ => ?_) (fun _ => ?_) | refine ⟨by decide, ?_⟩ | refine ⟨by first | assumption | (unfold vp_in; decide) | ((with_reducible (refine vp_in_nI ?_ ?_)) <;> omega), ?_⟩ | fail)
    exact h1 S' hS'
  · have g1 : 0 ≤ c := by assumption
    have g2 : ¬ 255 < c := by assumption
    refine X3_isFull H X (fun g => ?_) (fun g => ?_)
    · have h1 := ha (Int32.not_lt.mpr g1) (Or.inr g)
      repeat' (first | (refine Rules.st H okX4_letter [] ?_; conv => whnf) | refine br_t (by first | decide | assumption) ?_ | refine br_f (by first | decide | assumption) ?_ | refine br_c (fun _ => ?_) (fun _ => ?_) | refine ⟨by decide, ?_⟩ | refine ⟨by first | assumption | (unfold vp_in; decide) | ((with_reducible (refine vp_in_nI ?_ ?_)) <;> omega), ?_⟩ | fail)
      refine X4_ref H (ScX.rf) (k := 6) (by omega) (by omega) (by decide) (fun S' hS' => ?_)
      repeat' (first | (refine Rules.st H okX4_letter [] ?_; conv => whnf) | refine br_t (by first | decide | assumption) ?_ | refine br_f (by first | decide | assumption) ?_ | refine br_c (fun _ => ?_) (fun _ => ?_) | refine ⟨by decide, ?_⟩ | refine ⟨by first | assumption | (unfold vp_in; decide) | ((with_reducible (refine vp_in_nI ?_ ?_)) <;> omega), ?_⟩ | fail)
      exact h1 S' hS'
    · repeat' (first | (refine Rules.st H okX4_letter [] ?_; conv => whnf) | refine br_t (by first | decide | assumption) ?_ | refine br_f (by first | decide | assumption) ?_ | refine br_c (fun _ => ?_) (fun _ => ?_) | refine ⟨by decide, ?_⟩ | refine ⟨by first | assumption | (unfold vp_in; decide) | ((with_reducible (refine vp_in_nI ?_ ?_)) <;> omega), ?_⟩ | fail)
      refine X3_take H X g ?_
      repeat' (first | (refine Rules.st H okX4_letter [] ?_; conv => whnf) | refine br_t (by first | decide | assumption) ?_ | refine br_f (by first | decide | assumption) ?_ | refine br_c (fun _ => ?_) (fun _ => ?_) | refine ⟨by decide, ?_⟩ | refine ⟨by first | assumption | (unfold vp_in; decide) | ((with_reducible (refine vp_in_nI ?_ ?_)) <;> omega), ?_⟩ | fail)
      exact h1 (Int32.not_lt.mpr g1) g2 g
  · have h1 := hb (Int32.not_le.mp (by assumption))
    refine X4_ref H (ScX.rf) (k := 4) (by omega) (by omega) (by decide) (fun S' hS' => ?_)
    repeat' (first | (refine Rules.st H okX4_letter [] ?_; conv => whnf) | refine br_t (by first | decide | assumption) ?_ | refine br_f (by first | decide | assumption) ?_ | refine br_c (fun _ => ?_) (fun _ => ?_) | refine ⟨by decide, ?_⟩ | refine ⟨by first | assumption | (unfold vp_in; decide) | ((with_reducible (refine vp_in_nI ?_ ?_)) <;> omega), ?_⟩ | fail)
    exact h1 S' hS'
/-! counts -/
def F_count (S K : Mem) (n q l : Nat) (w : Int32) : Int32 :=
  if 11 ≤ w ∧ w ≤ 16 then S 22 (ix (w - 10)) else if w = 0 then nI n else if w = 1 then K 0 1 else if w = 2 then K 0 2 else if w = 3 then pcI (K 0 1) else if w = 4 then laterK K else if w = 5 then K 4 0 + K 4 1 else if w = 6 then nI q else if w = 7 then nI l else -9
set_option maxRecDepth 100000 in
theorem w11 {w : Int32} (h : 11 ≤ w ∧ w ≤ 16) : w = 11 ∨ w = 12 ∨ w = 13 ∨ w = 14 ∨ w = 15 ∨ w = 16 := by
  have h0 : ¬ w < 0 := fun z => by
    have := Int32.le_trans h.1 (Int32.le_of_lt z)
    exact absurd this (by decide)
  obtain ⟨j, hj, rfl⟩ := nI_of h0
  have a := (nI_leI (a := 11) (by omega) hj).mp h.1
  have b := (nI_leI (b := 16) hj (by omega)).mp h.2
  rcases (show j = 11 ∨ j = 12 ∨ j = 13 ∨ j = 14 ∨ j = 15 ∨ j = 16 by omega) with rfl | rfl | rfl | rfl | rfl | rfl
  · exact Or.inl rfl
  · exact Or.inr (Or.inl rfl)
  · exact Or.inr (Or.inr (Or.inl rfl))
  · exact Or.inr (Or.inr (Or.inr (Or.inl rfl)))
  · exact Or.inr (Or.inr (Or.inr (Or.inr (Or.inl rfl))))
  · exact Or.inr (Or.inr (Or.inr (Or.inr (Or.inr rfl))))
set_option maxRecDepth 100000 in
theorem X4_timesRefused (H : Rules C T) {S : Mem} {r : Nat} (hr : r < 7) {Q : Pst} (h1 : Q (some (.int (S 22 r))) S) : C mX4_timesRefused [.ref 0, .int (nI r)] S Q := by
  refine Rules.go H (by decide) (Nat.le_of_ble_eq_true rfl) ?_
  repeat' (first | (refine Rules.st H okX4_timesRefused [] ?_; conv => whnf) | refine br_t (by first | decide | assumption) ?_ | refine br_f (by first | decide | assumption) ?_ | refine br_c (fun _ => ?_) (fun _ => ?_) | refine ⟨by decide, ?_⟩ | refine ⟨by first | assumption | (unfold vp_in; decide) | ((with_reducible (refine vp_in_nI ?_ ?_)) <;> omega), ?_⟩ | fail)
  all_goals (try (exfalso; (simp (disch := omega) only [li0, li1, li2, li3, li4, li5, li6, li7, li8, li9, li10, li11, li12, li13, li14, li15, li16, li17, li18, li19, li20, li60, li96, li99, li255, li999, ofN, nI_leI, nI_ltI, nI_eq, nI_1, nI_add] at *); first | done | omega))
  rw [nIc (by omega)]
  exact h1
set_option maxRecDepth 100000 in
theorem X4_count (H : Rules C T) {S K : Mem} {n : Nat} (X : XK S K n) {row : Nat → Int32} {q l : Nat} (XQ : XR S row q) (XL : XT S l) {w : Int32} {Q : Pst} (h1 : Q (some (.int (F_count S K n q l w))) S) : C mX4_count [.ref 0, .int w] S Q := by
  obtain ⟨R, hn, hn8, hz⟩ := X
  obtain ⟨hq, h6, hrow⟩ := XQ
  obtain ⟨hl, hl1⟩ := XL
  unfold F_count at h1
  by_cases hw : 11 ≤ w ∧ w ≤ 16
  · rw [if_pos hw] at h1
    obtain ⟨r, hr, e⟩ : ∃ r, r < 7 ∧ w - 10 = nI r := by
      rcases w11 hw with rfl | rfl | rfl | rfl | rfl | rfl
      · exact ⟨1, by omega, rfl⟩
      · exact ⟨2, by omega, rfl⟩
      · exact ⟨3, by omega, rfl⟩
      · exact ⟨4, by omega, rfl⟩
      · exact ⟨5, by omega, rfl⟩
      · exact ⟨6, by omega, rfl⟩
    rw [show ix (w - 10) = r from by rw [e]; exact nIc (by omega)] at h1
    have g1 := hw.1
    have g2 := hw.2
    have g3 := Int32.not_lt.mpr g1
    have g4 := Int32.not_lt.mpr g2
    refine Rules.go H (by decide) (Nat.le_of_ble_eq_true rfl) ?_
    repeat' (first | (refine Rules.st H okX4_count [] ?_; conv => whnf) | refine br_t (by first | decide | assumption) ?_ | refine br_f (by first | decide | assumption) ?_ | refine br_c (fun _ => ?_) (fun _ => ?_) | refine ⟨by decide, ?_⟩ | refine ⟨by first | assumption | (unfold vp_in; decide) | ((with_reducible (refine vp_in_nI ?_ ?_)) <;> omega), ?_⟩ | fail)
    rw [e]
    refine X4_timesRefused H hr ?_
    repeat' (first | (refine Rules.st H okX4_count [] ?_; conv => whnf) | refine br_t (by first | decide | assumption) ?_ | refine br_f (by first | decide | assumption) ?_ | refine br_c (fun _ => ?_) (fun _ => ?_) | refine ⟨by decide, ?_⟩ | refine ⟨by first | assumption | (unfold vp_in; decide) | ((with_reducible (refine vp_in_nI ?_ ?_)) <;> omega), ?_⟩ | fail)
    exact h1
  · rw [if_neg hw] at h1
    have go : ∀ (h2 : T mX4_count Q 21 [some (.ref 0), some (.int w)] [] S), C mX4_count [.ref 0, .int w] S Q := fun h2 => by
      by_cases h11 : 11 ≤ w
      · have h16 : ¬ w ≤ 16 := fun z => hw ⟨h11, z⟩
        have h16' := Int32.not_le.mp h16
        have hn11 := Int32.not_lt.mpr h11
        refine Rules.go H (by decide) (Nat.le_of_ble_eq_true rfl) ?_
        repeat' (first | (refine Rules.st H okX4_count [21] ?_; conv => whnf) | refine br_t (by first | decide | assumption) ?_ | refine br_f (by first | decide | assumption) ?_ | refine br_c (fun _ => ?_) (fun _ => ?_) | refine ⟨by decide, ?_⟩ | refine ⟨by first | assumption | (unfold vp_in; decide) | ((with_reducible (refine vp_in_nI ?_ ?_)) <;> omega), ?_⟩ | fail)
        exact Halt.mk h2
      · have h11' := Int32.not_le.mp h11
        refine Rules.go H (by decide) (Nat.le_of_ble_eq_true rfl) ?_
        repeat' (first | (refine Rules.st H okX4_count [21] ?_; conv => whnf) | refine br_t (by first | decide | assumption) ?_ | refine br_f (by first | decide | assumption) ?_ | refine br_c (fun _ => ?_) (fun _ => ?_) | refine ⟨by decide, ?_⟩ | refine ⟨by first | assumption | (unfold vp_in; decide) | ((with_reducible (refine vp_in_nI ?_ ?_)) <;> omega), ?_⟩ | fail)
        exact Halt.mk h2
    refine go ?_
    skip
    repeat' (first | (refine Rules.st H okX4_count [] ?_; conv => whnf) | refine br_t (by first | decide | assumption) ?_ | refine br_f (by first | decide | assumption) ?_ | refine br_c (fun _ => ?_) (fun _ => ?_) | refine ⟨by decide, ?_⟩ | refine ⟨by first | assumption | (unfold vp_in; decide) | ((with_reducible (refine vp_in_nI ?_ ?_)) <;> omega), ?_⟩ | fail)
    · rw [if_pos (by assumption)] at h1
      refine X1_rooms H (Or.inl rfl) R ?_
      rw [hn]
      repeat' (first | (refine Rules.st H okX4_count [] ?_; conv => whnf) | refine br_t (by first | decide | assumption) ?_ | refine br_f (by first | decide | assumption) ?_ | refine br_c (fun _ => ?_) (fun _ => ?_) | refine ⟨by decide, ?_⟩ | refine ⟨by first | assumption | (unfold vp_in; decide) | ((with_reducible (refine vp_in_nI ?_ ?_)) <;> omega), ?_⟩ | fail)
      exact h1
    · rw [if_neg (by assumption), if_pos (by assumption)] at h1
      refine X1_doneBits H (Or.inl rfl) R ?_
      repeat' (first | (refine Rules.st H okX4_count [] ?_; conv => whnf) | refine br_t (by first | decide | assumption) ?_ | refine br_f (by first | decide | assumption) ?_ | refine br_c (fun _ => ?_) (fun _ => ?_) | refine ⟨by decide, ?_⟩ | refine ⟨by first | assumption | (unfold vp_in; decide) | ((with_reducible (refine vp_in_nI ?_ ?_)) <;> omega), ?_⟩ | fail)
      exact h1
    · rw [if_neg (by assumption), if_neg (by assumption), if_pos (by assumption)] at h1
      refine X1_cardBits H (Or.inl rfl) R ?_
      repeat' (first | (refine Rules.st H okX4_count [] ?_; conv => whnf) | refine br_t (by first | decide | assumption) ?_ | refine br_f (by first | decide | assumption) ?_ | refine br_c (fun _ => ?_) (fun _ => ?_) | refine ⟨by decide, ?_⟩ | refine ⟨by first | assumption | (unfold vp_in; decide) | ((with_reducible (refine vp_in_nI ?_ ?_)) <;> omega), ?_⟩ | fail)
      exact h1
    · rw [if_neg (by assumption), if_neg (by assumption), if_neg (by assumption), if_pos (by assumption)] at h1
      refine X1_doneCount H (Or.inl rfl) R ?_
      repeat' (first | (refine Rules.st H okX4_count [] ?_; conv => whnf) | refine br_t (by first | decide | assumption) ?_ | refine br_f (by first | decide | assumption) ?_ | refine br_c (fun _ => ?_) (fun _ => ?_) | refine ⟨by decide, ?_⟩ | refine ⟨by first | assumption | (unfold vp_in; decide) | ((with_reducible (refine vp_in_nI ?_ ?_)) <;> omega), ?_⟩ | fail)
      exact h1
    · rw [if_neg (by assumption), if_neg (by assumption), if_neg (by assumption), if_neg (by assumption), if_pos (by assumption)] at h1
      refine X1_laterClock H (Or.inl rfl) R ?_
      repeat' (first | (refine Rules.st H okX4_count [] ?_; conv => whnf) | refine br_t (by first | decide | assumption) ?_ | refine br_f (by first | decide | assumption) ?_ | refine br_c (fun _ => ?_) (fun _ => ?_) | refine ⟨by decide, ?_⟩ | refine ⟨by first | assumption | (unfold vp_in; decide) | ((with_reducible (refine vp_in_nI ?_ ?_)) <;> omega), ?_⟩ | fail)
      exact h1
    · rw [if_neg (by assumption), if_neg (by assumption), if_neg (by assumption), if_neg (by assumption), if_neg (by assumption), if_pos (by assumption)] at h1
      refine X1_loadOf H (Or.inl rfl) R (r := 0) (by omega) ?_
      repeat' (first | (refine Rules.st H okX4_count [] ?_; conv => whnf) | refine br_t (by first | decide | assumption) ?_ | refine br_f (by first | decide | assumption) ?_ | refine br_c (fun _ => ?_) (fun _ => ?_) | refine ⟨by decide, ?_⟩ | refine ⟨by first | assumption | (unfold vp_in; decide) | ((with_reducible (refine vp_in_nI ?_ ?_)) <;> omega), ?_⟩ | fail)
      refine X1_loadOf H (Or.inl rfl) R (r := 1) (by omega) ?_
      repeat' (first | (refine Rules.st H okX4_count [] ?_; conv => whnf) | refine br_t (by first | decide | assumption) ?_ | refine br_f (by first | decide | assumption) ?_ | refine br_c (fun _ => ?_) (fun _ => ?_) | refine ⟨by decide, ?_⟩ | refine ⟨by first | assumption | (unfold vp_in; decide) | ((with_reducible (refine vp_in_nI ?_ ?_)) <;> omega), ?_⟩ | fail)
      exact h1
    · rw [if_neg (by assumption), if_neg (by assumption), if_neg (by assumption), if_neg (by assumption), if_neg (by assumption), if_neg (by assumption), if_pos (by assumption)] at h1
      rw [← h6] at h1
      exact h1
    · rw [if_neg (by assumption), if_neg (by assumption), if_neg (by assumption), if_neg (by assumption), if_neg (by assumption), if_neg (by assumption), if_neg (by assumption), if_pos (by assumption)] at h1
      refine X3_length H ?_
      rw [hl1]
      repeat' (first | (refine Rules.st H okX4_count [] ?_; conv => whnf) | refine br_t (by first | decide | assumption) ?_ | refine br_f (by first | decide | assumption) ?_ | refine br_c (fun _ => ?_) (fun _ => ?_) | refine ⟨by decide, ?_⟩ | refine ⟨by first | assumption | (unfold vp_in; decide) | ((with_reducible (refine vp_in_nI ?_ ?_)) <;> omega), ?_⟩ | fail)
      exact h1
    · rw [if_neg (by assumption), if_neg (by assumption), if_neg (by assumption), if_neg (by assumption), if_neg (by assumption), if_neg (by assumption), if_neg (by assumption), if_neg (by assumption)] at h1
      exact h1
end X10
