section M40
variable {C : Cst} {T : Nat → Pst → Nat → Lcs → List Value → Mem → Prop}
/-- the reference while it reads letters: at the place p -/
def RdM (S : Mem) (lt : Nat → Int32) (l p : Nat) : Prop := l ≤ 96 ∧ S 25 13 = nI l ∧ (∀ j, j < l → S 34 j = lt j) ∧ S 25 14 = nI p
set_option maxRecDepth 100000 in
theorem X5_letterNow (H : Rules C T) {S : Mem} {lt : Nat → Int32} {l p : Nat} (X : RdM S lt l p) (hp : p < 200) {Q : Pst} (h1 : Q (some (.int (ltA lt l p))) S) : C mX5_letterNow [.ref 25] S Q := by
  obtain ⟨hl, e13, e34, e14⟩ := X
  unfold ltA at h1
  by_cases q : p < l
  · have c : ¬ S 25 13 ≤ S 25 14 := by rw [e13, e14]; exact nI_ge q (by omega)
    have hv : vp_in (S 25 14) 96 := by rw [e14]; exact vp_in_nI (by omega) (by omega)
    rw [if_pos q, ← e34 p q, show p = (S 25 14).toNatClampNeg from by rw [e14]; exact (nIc (by omega)).symm] at h1
    refine Rules.go H (by decide) (Nat.le_of_ble_eq_true rfl) ?_
    repeat' (first | (refine Rules.st H okX5_letterNow [] ?_; (conv => whnf); try (show T _ _ _ [_] _ _)) | refine br_t (by first | decide | assumption) ?_ | refine br_f (by first | decide | assumption) ?_ | refine br_c (fun _ => ?_) (fun _ => ?_) | refine ⟨by decide, ?_⟩ | refine ⟨by first | assumption | (unfold vp_in; decide) | ((with_reducible (refine vp_in_nI ?_ ?_)) <;> omega), ?_⟩ | fail)
    exact h1
  · have c : S 25 13 ≤ S 25 14 := by rw [e13, e14]; exact nI_le (by omega) (by omega)
    rw [if_neg q] at h1
    refine Rules.go H (by decide) (Nat.le_of_ble_eq_true rfl) ?_
    repeat' (first | (refine Rules.st H okX5_letterNow [] ?_; (conv => whnf); try (show T _ _ _ [_] _ _)) | refine br_t (by first | decide | assumption) ?_ | refine br_f (by first | decide | assumption) ?_ | refine br_c (fun _ => ?_) (fun _ => ?_) | refine ⟨by decide, ?_⟩ | refine ⟨by first | assumption | (unfold vp_in; decide) | ((with_reducible (refine vp_in_nI ?_ ?_)) <;> omega), ?_⟩ | fail)
    exact h1
def FrR (S S' : Mem) : Prop := ∀ a j, ¬ (a = 25 ∧ j = 14) → S' a j = S a j
set_option maxRecDepth 100000 in
theorem RdM.step {S : Mem} {lt : Nat → Int32} {l p : Nat} {v : Int32} (X : RdM S lt l p) (h : v = nI (p + 1)) : RdM (up S 25 14 v) lt l (p + 1) := ⟨X.1, by rw [up_j (by omega)]; exact X.2.1, fun j hj => by rw [up_k (by omega)]; exact X.2.2.1 j hj, by rw [up_at]; exact h⟩
def digV (lt : Nat → Int32) (l : Nat) : Nat → Nat → Int32 → Int32
  | 0, _, v => v
  | k + 1, p, v => digV lt l k (p + 1) (10 * v + ltA lt l p - 48)
set_option maxRecDepth 100000 in
theorem X5_rd_l (H : Rules C T) {lt : Nat → Int32} {l n3 : Nat} (h3 : n3 < 4) {Q : Pst} : ∀ (k i p : Nat) (v : Int32) (S : Mem), i + k = n3 → p + k < 200 → RdM S lt l p → (∀ j, j < k → (∀ x, x < j → isDg (ltA lt l (p + x))) → ¬ isDg (ltA lt l (p + j)) → ∀ S', RdM S' lt l (p + j) → FrR S S' → Q (some (.int 0)) S') → ((∀ x, x < k → isDg (ltA lt l (p + x))) → ∀ S', RdM S' lt l (p + k) → FrR S S' → T mX5_readsDigits Q 54 [some (.ref 25), some (.int (nI n3)), some (.int (digV lt l k p v)), some (.int (nI n3))] [] S') → T mX5_readsDigits Q 4 [some (.ref 25), some (.int (nI n3)), some (.int v), some (.int (nI i))] [] S := by
  intro k
  induction k with
  | zero =>
    intro i p v S hi hp X h0 h1
    have hge : nI n3 ≤ nI i := nI_le (by omega) (by omega)
    have h1 := h1 (fun x hx => absurd hx (by omega)) S X (fun _ _ _ => rfl)
    rw [show n3 = i by omega] at h1 hge ⊢
    skip
    repeat' (first | (refine Rules.st H okX5_readsDigits [4, 54] ?_; (conv => whnf); try (show T _ _ _ [_, _, _, _] _ _)) | refine br_t (by first | decide | assumption) ?_ | refine br_f (by first | decide | assumption) ?_ | refine br_c (fun _ => ?_) (fun _ => ?_) | refine ⟨by decide, ?_⟩ | refine ⟨by first | assumption | (unfold vp_in; decide) | ((with_reducible (refine vp_in_nI ?_ ?_)) <;> omega), ?_⟩ | fail)
    exact Halt.mk h1
  | succ k ih =>
    intro i p v S hi hp X h0 h1
    have hge : ¬ nI n3 ≤ nI i := nI_ge (by omega) (by omega)
    skip
    repeat' (first | (refine Rules.st H okX5_readsDigits [4, 54] ?_; (conv => whnf); try (show T _ _ _ [_, _, _, _] _ _)) | refine br_t (by first | decide | assumption) ?_ | refine br_f (by first | decide | assumption) ?_ | refine br_c (fun _ => ?_) (fun _ => ?_) | refine ⟨by decide, ?_⟩ | refine ⟨by first | assumption | (unfold vp_in; decide) | ((with_reducible (refine vp_in_nI ?_ ?_)) <;> omega), ?_⟩ | fail)
    refine X5_letterNow H X (by omega) ?_
    repeat' (first | (refine Rules.st H okX5_readsDigits [4, 54] ?_; (conv => whnf); try (show T _ _ _ [_, _, _, _] _ _)) | refine br_t (by first | decide | assumption) ?_ | refine br_f (by first | decide | assumption) ?_ | refine br_c (fun _ => ?_) (fun _ => ?_) | refine ⟨by decide, ?_⟩ | refine ⟨by first | assumption | (unfold vp_in; decide) | ((with_reducible (refine vp_in_nI ?_ ?_)) <;> omega), ?_⟩ | fail)
    refine X5_isIn H (fun q1 q2 => ?_) (fun q => ?_)
    · repeat' (first | (refine Rules.st H okX5_readsDigits [4, 54] ?_; (conv => whnf); try (show T _ _ _ [_, _, _, _] _ _)) | refine br_t (by first | decide | assumption) ?_ | refine br_f (by first | decide | assumption) ?_ | refine br_c (fun _ => ?_) (fun _ => ?_) | refine ⟨by decide, ?_⟩ | refine ⟨by first | assumption | (unfold vp_in; decide) | ((with_reducible (refine vp_in_nI ?_ ?_)) <;> omega), ?_⟩ | fail)
      refine X5_letterNow H X (by omega) ?_
      repeat' (first | (refine Rules.st H okX5_readsDigits [4, 54] ?_; (conv => whnf); try (show T _ _ _ [_, _, _, _] _ _)) | refine br_t (by first | decide | assumption) ?_ | refine br_f (by first | decide | assumption) ?_ | refine br_c (fun _ => ?_) (fun _ => ?_) | refine ⟨by decide, ?_⟩ | refine ⟨by first | assumption | (unfold vp_in; decide) | ((with_reducible (refine vp_in_nI ?_ ?_)) <;> omega), ?_⟩ | fail)
      refine Halt.mk ?_
      rw [nI_1]
      have dg : isDg (ltA lt l p) := ⟨q1, q2⟩
      refine ih (i + 1) (p + 1) _ _ (by omega) (by omega) (X.step (by rw [X.2.2.2]; exact nI_1 p)) (fun j hj hx hno S' X' F' => ?_) (fun hx S' X' F' => ?_)
      · refine h0 (j + 1) (by omega) (fun x hx2 => ?_) (by rw [show p + (j + 1) = p + 1 + j by omega]; exact hno) S' (by rw [show p + (j + 1) = p + 1 + j by omega]; exact X') (fun a b hab => by rw [F' a b hab]; unfold up; rw [if_neg hab])
        cases x with
        | zero => exact dg
        | succ x => rw [show p + (x + 1) = p + 1 + x by omega]; exact hx x (by omega)
      · refine h1 (fun x hx2 => ?_) S' (by rw [show p + (k + 1) = p + 1 + k by omega]; exact X') (fun a b hab => by rw [F' a b hab]; unfold up; rw [if_neg hab])
        cases x with
        | zero => exact dg
        | succ x => rw [show p + (x + 1) = p + 1 + x by omega]; exact hx x (by omega)
    · have h0 := h0 0 (by omega) (fun x hx => absurd hx (by omega)) (fun z => q z) S X (fun _ _ _ => rfl)
      repeat' (first | (refine Rules.st H okX5_readsDigits [4, 54] ?_; (conv => whnf); try (show T _ _ _ [_, _, _, _] _ _)) | refine br_t (by first | decide | assumption) ?_ | refine br_f (by first | decide | assumption) ?_ | refine br_c (fun _ => ?_) (fun _ => ?_) | refine ⟨by decide, ?_⟩ | refine ⟨by first | assumption | (unfold vp_in; decide) | ((with_reducible (refine vp_in_nI ?_ ?_)) <;> omega), ?_⟩ | fail)
      exact h0
/-- telling from t to u -/
def FrT (t u : Nat) (S S' : Mem) : Prop := ∀ a j, ¬ (a = 25 ∧ (j = 14 ∨ j = 16)) → ¬ (a = 37 ∧ t ≤ j ∧ j < u) → S' a j = S a j
set_option maxRecDepth 100000 in
theorem FrT.tr {t u v : Nat} {S S1 S2 : Mem} (h1 : FrT t u S S1) (h2 : FrT u v S1 S2) (htu : t ≤ u) (huv : u ≤ v) : FrT t v S S2 := fun a j g1 g2 => by
  rw [h2 a j g1 (fun z => g2 ⟨z.1, by omega, z.2.2⟩), h1 a j g1 (fun z => g2 ⟨z.1, z.2.1, by omega⟩)]
set_option maxRecDepth 100000 in
theorem FrR.t {t u : Nat} {S S' : Mem} (h : FrR S S') : FrT t u S S' := fun a j g1 _ => h a j (fun z => g1 ⟨z.1, Or.inl z.2⟩)
set_option maxRecDepth 100000 in
theorem FrT.mono {t u v : Nat} {S S' : Mem} (h : FrT t u S S') (huv : u ≤ v) : FrT t v S S' := fun a j g1 g2 => h a j g1 (fun z => g2 ⟨z.1, z.2.1, by omega⟩)
set_option maxRecDepth 100000 in
theorem RdM.told {S : Mem} {lt : Nat → Int32} {l p t : Nat} {x y : Int32} (X : RdM S lt l p) : RdM (up (up S 37 t x) 25 16 y) lt l p := ⟨X.1, by rw [up_j (by omega), up_k (by omega)]; exact X.2.1, fun j hj => by rw [up_k (by omega), up_k (by omega)]; exact X.2.2.1 j hj, by rw [up_j (by omega), up_k (by omega)]; exact X.2.2.2⟩
set_option maxRecDepth 100000 in
theorem X5_readsDigits (H : Rules C T) {lt : Nat → Int32} {l p n3 t : Nat} (h3 : n3 < 4) {S : Mem} (X : RdM S lt l p) (hp : p < 150) (et : S 25 16 = nI t) (ht : t < 99) {Q : Pst} (h0 : ∀ j, j < n3 → (∀ x, x < j → isDg (ltA lt l (p + x))) → ¬ isDg (ltA lt l (p + j)) → ∀ S', RdM S' lt l (p + j) → FrT t (t + 1) S S' → Q (some (.int 0)) S') (h1 : (∀ x, x < n3 → isDg (ltA lt l (p + x))) → ∀ S', RdM S' lt l (p + n3) → FrT t (t + 1) S S' → S' 25 16 = nI (t + 1) → S' 37 t = digV lt l n3 p 0 → Q (some (.int 1)) S') : C mX5_readsDigits [.ref 25, .int (nI n3)] S Q := by
  refine Rules.go H (by decide) (Nat.le_of_ble_eq_true rfl) ?_
  repeat' (first | (refine Rules.st H okX5_readsDigits [4] ?_; (conv => whnf); try (show T _ _ _ [_, _, _, _] _ _)) | refine br_t (by first | decide | assumption) ?_ | refine br_f (by first | decide | assumption) ?_ | refine br_c (fun _ => ?_) (fun _ => ?_) | refine ⟨by decide, ?_⟩ | refine ⟨by first | assumption | (unfold vp_in; decide) | ((with_reducible (refine vp_in_nI ?_ ?_)) <;> omega), ?_⟩ | fail)
  refine Halt.mk ?_
  refine X5_rd_l H h3 n3 0 p 0 S (by omega) (by omega) X (fun j hj hx hno S' X' F' => h0 j hj hx hno S' X' F'.t) (fun hx S' X' F' => ?_)
  have et' : S' 25 16 = nI t := by rw [F' 25 16 (by omega)]; exact et
  have hv : vp_in (S' 25 16) 99 := by rw [et']; exact vp_in_nI ht (by omega)
  have h1 := h1 hx (up (up S' 37 t (digV lt l n3 p 0)) 25 16 (nI (t + 1))) X'.told (fun a j g1 g2 => by
    unfold up
    rw [if_neg (fun z => g1 ⟨z.1, Or.inr z.2⟩), if_neg (fun z => g2 ⟨z.1, by omega, by omega⟩)]
    exact F' a j (fun z => g1 ⟨z.1, Or.inl z.2⟩)) up_at (by rw [up_k (by omega), up_at])
  have h1 : Q (some (.int 1)) (up (up S' 37 (S' 25 16).toNatClampNeg (digV lt l n3 p 0)) 25 16 (up S' 37 (S' 25 16).toNatClampNeg (digV lt l n3 p 0) 25 16 + 1)) := by
    rw [up_k (by omega), et', nIc (by omega), nI_1]
    exact h1
  skip
  repeat' (first | (refine Rules.st H okX5_readsDigits [] ?_; (conv => whnf); try (show T _ _ _ [_, _, _, _] _ _)) | refine br_t (by first | decide | assumption) ?_ | refine br_f (by first | decide | assumption) ?_ | refine br_c (fun _ => ?_) (fun _ => ?_) | refine ⟨by decide, ?_⟩ | refine ⟨by first | assumption | (unfold vp_in; decide) | ((with_reducible (refine vp_in_nI ?_ ?_)) <;> omega), ?_⟩ | fail)
  exact h1
set_option maxRecDepth 100000 in
theorem X5_kindTold (H : Rules C T) {c : Int32} {S : Mem} {Q : Pst} (h1 : 0 ≤ ofL c → Q (some (.int (ofL c))) S) (h0 : ¬ 0 ≤ ofL c → Q (some (.int (-9))) S) : C mX5_kindTold [.int c] S Q := by
  unfold ofL at h1 h0
  refine Rules.go H (by decide) (Nat.le_of_ble_eq_true rfl) ?_
  repeat' (first | (refine Rules.st H okX5_kindTold [] ?_; (conv => whnf); try (show T _ _ _ [_] _ _)) | refine br_t (by first | decide | assumption) ?_ | refine br_f (by first | decide | assumption) ?_ | refine br_c (fun _ => ?_) (fun _ => ?_) | refine ⟨by decide, ?_⟩ | refine ⟨by first | assumption | (unfold vp_in; decide) | ((with_reducible (refine vp_in_nI ?_ ?_)) <;> omega), ?_⟩ | fail)
  all_goals first
    | (subst_vars; simpa using h1 (by decide))
    | (refine h0 ?_; simp only [*, if_false]; decide)
set_option maxRecDepth 100000 in
theorem X5_readsKind (H : Rules C T) {lt : Nat → Int32} {l p t : Nat} {S : Mem} (X : RdM S lt l p) (hp : p < 150) (et : S 25 16 = nI t) (ht : t < 99) {Q : Pst} (h0 : ¬ 0 ≤ ofL (ltA lt l p) → Q (some (.int 0)) S) (h1 : 0 ≤ ofL (ltA lt l p) → ∀ S', RdM S' lt l (p + 1) → FrT t (t + 1) S S' → S' 25 16 = nI (t + 1) → S' 37 t = ofL (ltA lt l p) → Q (some (.int 1)) S') : C mX5_readsKind [.ref 25] S Q := by
  have hv : vp_in (S 25 16) 99 := by rw [et]; exact vp_in_nI ht (by omega)
  refine Rules.go H (by decide) (Nat.le_of_ble_eq_true rfl) ?_
  repeat' (first | (refine Rules.st H okX5_readsKind [] ?_; (conv => whnf); try (show T _ _ _ [_, _] _ _)) | refine br_t (by first | decide | assumption) ?_ | refine br_f (by first | decide | assumption) ?_ | refine br_c (fun _ => ?_) (fun _ => ?_) | refine ⟨by decide, ?_⟩ | refine ⟨by first | assumption | (unfold vp_in; decide) | ((with_reducible (refine vp_in_nI ?_ ?_)) <;> omega), ?_⟩ | fail)
  refine X5_letterNow H X (by omega) ?_
  repeat' (first | (refine Rules.st H okX5_readsKind [] ?_; (conv => whnf); try (show T _ _ _ [_, _] _ _)) | refine br_t (by first | decide | assumption) ?_ | refine br_f (by first | decide | assumption) ?_ | refine br_c (fun _ => ?_) (fun _ => ?_) | refine ⟨by decide, ?_⟩ | refine ⟨by first | assumption | (unfold vp_in; decide) | ((with_reducible (refine vp_in_nI ?_ ?_)) <;> omega), ?_⟩ | fail)
  refine X5_kindTold H (fun q => ?_) (fun q => ?_)
  · have X' := (X.told (t := t) (x := ofL (ltA lt l p)) (y := nI (t + 1)))
    have h1 := h1 q (up (up (up S 37 t (ofL (ltA lt l p))) 25 16 (nI (t + 1))) 25 14 (nI (p + 1))) (X'.step rfl) (fun a j g1 g2 => by
      unfold up
      rw [if_neg (fun z => g1 ⟨z.1, Or.inl z.2⟩), if_neg (fun z => g1 ⟨z.1, Or.inr z.2⟩), if_neg (fun z => g2 ⟨z.1, by omega, by omega⟩)]) (by rw [up_j (by omega), up_at]) (by rw [up_k (by omega), up_k (by omega), up_at])
    have h1 : Q (some (.int 1)) (up (up (up S 37 (S 25 16).toNatClampNeg (ofL (ltA lt l p))) 25 16 (up S 37 (S 25 16).toNatClampNeg (ofL (ltA lt l p)) 25 16 + 1)) 25 14 (up (up S 37 (S 25 16).toNatClampNeg (ofL (ltA lt l p))) 25 16 (up S 37 (S 25 16).toNatClampNeg (ofL (ltA lt l p)) 25 16 + 1) 25 14 + 1)) := by
      have ea : ∀ i x, up S 37 i x 25 16 = nI t := fun i x => by rw [up_k (by omega)]; exact et
      have eb : ∀ i x y, up (up S 37 i x) 25 16 y 25 14 = nI p := fun i x y => by rw [up_j (by omega), up_k (by omega)]; exact X.2.2.2
      rw [eb, ea, et, nIc (by omega), nI_1, nI_1]
      exact h1
    have c0 : 0 ≤ ofL (ltA lt l p) := q
    repeat' (first | (refine Rules.st H okX5_readsKind [] ?_; (conv => whnf); try (show T _ _ _ [_, _] _ _)) | refine br_t (by first | decide | assumption) ?_ | refine br_f (by first | decide | assumption) ?_ | refine br_c (fun _ => ?_) (fun _ => ?_) | refine ⟨by decide, ?_⟩ | refine ⟨by first | assumption | (unfold vp_in; decide) | ((with_reducible (refine vp_in_nI ?_ ?_)) <;> omega), ?_⟩ | fail)
    exact h1
  · have h0 := h0 q
    repeat' (first | (refine Rules.st H okX5_readsKind [] ?_; (conv => whnf); try (show T _ _ _ [_, _] _ _)) | refine br_t (by first | decide | assumption) ?_ | refine br_f (by first | decide | assumption) ?_ | refine br_c (fun _ => ?_) (fun _ => ?_) | refine ⟨by decide, ?_⟩ | refine ⟨by first | assumption | (unfold vp_in; decide) | ((with_reducible (refine vp_in_nI ?_ ?_)) <;> omega), ?_⟩ | fail)
    exact h0
end M40
