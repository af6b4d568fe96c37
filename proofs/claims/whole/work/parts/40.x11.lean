section X11
variable {C : Cst} {T : Nat → Pst → Nat → Lcs → List Value → Mem → Prop}
/-! swap -/
def swR (row : Nat → Int32) (i j : Nat) : Nat → Int32 := upd (upd row i (row j)) j (row i)
def swM (K : Mem) (n m : Nat) (row : Nat → Int32) (q i j : Nat) : Int32 := rowK n m (swR row i j) q 0 K 5 m - K 5 m
def swJ (K : Mem) (n m : Nat) (row : Nat → Int32) (q i : Nat) : Nat → Nat → Int32 × Int32 → Int32 × Int32
  | 0, _, p => p
  | k + 1, j, p => swJ K n m row q i k (j + 1) (if swM K n m row q i j < p.2 then (16 * nI i + nI j, swM K n m row q i j) else p)
def swI (K : Mem) (n m : Nat) (row : Nat → Int32) (q : Nat) : Nat → Nat → Int32 × Int32 → Int32 × Int32
  | 0, _, p => p
  | k + 1, i, p => swI K n m row q k (i + 1) (swJ K n m row q i k (i + 1) p)
set_option maxRecDepth 100000 in
theorem X4_swap_j (H : Rules C T) {K : Mem} {n m q i : Nat} (hm : m < 2) {row : Nat → Int32} {Q : Pst} {S0 : Mem} (X0 : XK S0 K n) (XQ0 : XR S0 row q) (hi : i < q) : ∀ (k j : Nat) (p : Int32 × Int32) (S : Mem), j + k = q → i < j → ScX 0 S0 S → (∀ S', ScX 0 S0 S' → T mX4_swap Q 49 [some (.ref 0), some (.int (nI m)), some (.int (swJ K n m row q i k j p).2), some (.int (swJ K n m row q i k j p).1), some (.int (nI i)), some (.int (nI q))] [] S') → T mX4_swap Q 49 [some (.ref 0), some (.int (nI m)), some (.int p.2), some (.int p.1), some (.int (nI i)), some (.int (nI j))] [] S := by
  obtain ⟨R0, hn, hn8, hz⟩ := X0
  obtain ⟨hq, h6, hrow⟩ := XQ0
  intro k
  induction k with
  | zero =>
    intro j p S hj hij hs h1
    rw [show j = q by omega]
    exact h1 S hs
  | succ k ih =>
    intro j p S hj hij hs h1
    have e6 : S 0 6 = nI q := by rw [hs.at (by unfold scrX; omega)]; exact h6
    have e21 : ∀ a, a < 16 → S 21 a = row a := fun a ha => by rw [hs.at (by unfold scrX; omega)]; exact hrow a ha
    have R : RepC 1 S K := hs.rep R0 (Or.inl rfl)
    have hge : ¬ S 0 6 ≤ nI j := by rw [e6]; exact nI_ge (by omega) (by omega)
    unfold swJ at h1
    skip
    repeat' (first | (refine Rules.st H okX4_swap [49] ?_; conv => whnf) | refine br_t (by first | decide | assumption) ?_ | refine br_f (by first | decide | assumption) ?_ | refine br_c (fun _ => ?_) (fun _ => ?_) | refine ⟨by decide, ?_⟩ | refine ⟨by first | assumption | (unfold vp_in; decide) | ((with_reducible (refine vp_in_nI ?_ ?_)) <;> omega), ?_⟩ | fail)
    refine X4_exchange H (a := 21) (ln := 16) (Or.inl ⟨rfl, rfl⟩) (by omega) (by omega) ?_
    repeat' (first | (refine Rules.st H okX4_swap [49] ?_; conv => whnf) | refine br_t (by first | decide | assumption) ?_ | refine br_f (by first | decide | assumption) ?_ | refine br_c (fun _ => ?_) (fun _ => ?_) | refine ⟨by decide, ?_⟩ | refine ⟨by first | assumption | (unfold vp_in; decide) | ((with_reducible (refine vp_in_nI ?_ ?_)) <;> omega), ?_⟩ | fail)
    have Rx : RepC 1 (up (up S 21 i (S 21 j)) 21 j (S 21 i)) K := (R.fr (Fr.put (a := 21) (b := 21) (by omega) (by omega)) (by omega)).fr (Fr.put (a := 21) (b := 21) (by omega) (by omega)) (by omega)
    have ex : ∀ a, a < 16 → up (up S 21 i (S 21 j)) 21 j (S 21 i) 21 a = swR row i j a := fun a ha => by
      unfold swR upd
      by_cases h1 : a = j
      · rw [h1, up_at, if_pos rfl]; exact e21 i (by omega)
      · rw [up_j h1, if_neg h1]
        by_cases h2 : a = i
        · rw [h2, up_at, if_pos rfl]; exact e21 j (by omega)
        · rw [up_j h2, if_neg h2]; exact e21 a ha
    refine X4_thinkRow H hn8 hm hq (row := swR row i j) (by rw [up_k (by omega), up_k (by omega)]; exact e6) ex Rx hz hn (fun S1 R1 F1 => ?_)
    repeat' (first | (refine Rules.st H okX4_swap [49] ?_; conv => whnf) | refine br_t (by first | decide | assumption) ?_ | refine br_f (by first | decide | assumption) ?_ | refine br_c (fun _ => ?_) (fun _ => ?_) | refine ⟨by decide, ?_⟩ | refine ⟨by first | assumption | (unfold vp_in; decide) | ((with_reducible (refine vp_in_nI ?_ ?_)) <;> omega), ?_⟩ | fail)
    refine X4_exchange H (a := 21) (ln := 16) (Or.inl ⟨rfl, rfl⟩) (by omega) (by omega) ?_
    have s2 : ScX 0 S0 (up (up S1 21 i (S1 21 j)) 21 j (S1 21 i)) := hs.tr (fun a b ha => by
      rw [if_neg (fun z => z.2.2 rfl)]
      by_cases h21 : a = 21
      · subst h21
        by_cases h1 : b = j
        · rw [h1, up_at, F1 21 i (by omega), up_j (by omega), up_at]
        · rw [up_j h1]
          by_cases h2 : b = i
          · rw [h2, up_at, F1 21 j (by omega), up_at]
          · rw [up_j h2, F1 21 b (by omega), up_j h1, up_j h2]
      · rw [up_k h21, up_k h21, F1 a b (by unfold scrX at ha; omega), up_k h21, up_k h21])
    have R2 : RepC 1 (up (up S1 21 i (S1 21 j)) 21 j (S1 21 i)) K := s2.rep R0 (Or.inl rfl)
    have R7 : RepC 7 (up (up S1 21 i (S1 21 j)) 21 j (S1 21 i)) (rowK n m (swR row i j) q 0 K) := (R1.fr (Fr.put (a := 21) (b := 21) (by omega) (by omega)) (by omega)).fr (Fr.put (a := 21) (b := 21) (by omega) (by omega)) (by omega)
    generalize up (up S1 21 i (S1 21 j)) 21 j (S1 21 i) = S2 at s2 R2 R7 ⊢
    repeat' (first | (refine Rules.st H okX4_swap [49] ?_; conv => whnf) | refine br_t (by first | decide | assumption) ?_ | refine br_f (by first | decide | assumption) ?_ | refine br_c (fun _ => ?_) (fun _ => ?_) | refine ⟨by decide, ?_⟩ | refine ⟨by first | assumption | (unfold vp_in; decide) | ((with_reducible (refine vp_in_nI ?_ ?_)) <;> omega), ?_⟩ | fail)
    refine X4_thoughtMinutes H R2 R7 hm ?_
    have nx : ∀ p', (if swM K n m row q i j < p.2 then (16 * nI i + nI j, swM K n m row q i j) else p) = p' → Halt (T mX4_swap Q 49 [some (.ref 0), some (.int (nI m)), some (.int p'.2), some (.int p'.1), some (.int (nI i)), some (.int (nI j + 1))] [] S2) := fun p' e => Halt.mk (by
      rw [nI_1]
      exact ih (j + 1) p' S2 (by omega) (by omega) s2 (fun S' h' => by rw [← e]; exact h1 S' h'))
    repeat' (first | (refine Rules.st H okX4_swap [49] ?_; conv => whnf) | refine br_t (by first | decide | assumption) ?_ | refine br_f (by first | decide | assumption) ?_ | refine br_c (fun _ => ?_) (fun _ => ?_) | refine ⟨by decide, ?_⟩ | refine ⟨by first | assumption | (unfold vp_in; decide) | ((with_reducible (refine vp_in_nI ?_ ?_)) <;> omega), ?_⟩ | fail)
    · exact nx p (if_neg (Int32.not_lt.mpr (by assumption)))
    · refine X4_thoughtMinutes H R2 R7 hm ?_
      repeat' (first | (refine Rules.st H okX4_swap [49] ?_; conv => whnf) | refine br_t (by first | decide | assumption) ?_ | refine br_f (by first | decide | assumption) ?_ | refine br_c (fun _ => ?_) (fun _ => ?_) | refine ⟨by decide, ?_⟩ | refine ⟨by first | assumption | (unfold vp_in; decide) | ((with_reducible (refine vp_in_nI ?_ ?_)) <;> omega), ?_⟩ | fail)
      exact nx (16 * nI i + nI j, swM K n m row q i j) (if_pos (Int32.not_le.mp (by assumption)))
set_option maxRecDepth 100000 in
theorem X4_swap_i (H : Rules C T) {K : Mem} {n m q : Nat} (hm : m < 2) {row : Nat → Int32} {Q : Pst} {S0 : Mem} (X0 : XK S0 K n) (XQ0 : XR S0 row q) : ∀ (k i : Nat) (p : Int32 × Int32) (S : Mem) (x : Option Value), i + k = q → ScX 0 S0 S → (∀ S', ScX 0 S0 S' → Q (some (.int (swI K n m row q k i p).1)) S') → T mX4_swap Q 34 [some (.ref 0), some (.int (nI m)), some (.int p.2), some (.int p.1), some (.int (nI i)), x] [] S := by
  have X1 := X0
  have XQ1 := XQ0
  obtain ⟨R0, hn, hn8, hz⟩ := X0
  obtain ⟨hq, h6, hrow⟩ := XQ0
  intro k
  induction k with
  | zero =>
    intro i p S x hi hs h1
    have e6 : S 0 6 = nI q := by rw [hs.at (by unfold scrX; omega)]; exact h6
    have hge : S 0 6 ≤ nI i := by rw [e6]; exact nI_le (by omega) (by omega)
    skip
    repeat' (first | (refine Rules.st H okX4_swap [34] ?_; conv => whnf) | refine br_t (by first | decide | assumption) ?_ | refine br_f (by first | decide | assumption) ?_ | refine br_c (fun _ => ?_) (fun _ => ?_) | refine ⟨by decide, ?_⟩ | refine ⟨by first | assumption | (unfold vp_in; decide) | ((with_reducible (refine vp_in_nI ?_ ?_)) <;> omega), ?_⟩ | fail)
    exact h1 S hs
  | succ k ih =>
    intro i p S x hi hs h1
    have e6 : S 0 6 = nI q := by rw [hs.at (by unfold scrX; omega)]; exact h6
    have hge : ¬ S 0 6 ≤ nI i := by rw [e6]; exact nI_ge (by omega) (by omega)
    unfold swI at h1
    skip
    repeat' (first | (refine Rules.st H okX4_swap [34, 49] ?_; conv => whnf) | refine br_t (by first | decide | assumption) ?_ | refine br_f (by first | decide | assumption) ?_ | refine br_c (fun _ => ?_) (fun _ => ?_) | refine ⟨by decide, ?_⟩ | refine ⟨by first | assumption | (unfold vp_in; decide) | ((with_reducible (refine vp_in_nI ?_ ?_)) <;> omega), ?_⟩ | fail)
    refine Halt.mk ?_
    show T mX4_swap Q 49 [some (.ref 0), some (.int (nI m)), some (.int p.2), some (.int p.1), some (.int (nI i)), some (.int (nI i + 1))] [] S
    rw [nI_1]
    refine X4_swap_j H hm X1 XQ1 (by omega) k (i + 1) p S (by omega) (by omega) hs (fun S1 h1' => ?_)
    have e6' : S1 0 6 = nI q := by rw [h1'.at (by unfold scrX; omega)]; exact h6
    have hge' : S1 0 6 ≤ nI q := by rw [e6']; exact nI_le (by omega) (by omega)
    skip
    repeat' (first | (refine Rules.st H okX4_swap [34] ?_; conv => whnf) | refine br_t (by first | decide | assumption) ?_ | refine br_f (by first | decide | assumption) ?_ | refine br_c (fun _ => ?_) (fun _ => ?_) | refine ⟨by decide, ?_⟩ | refine ⟨by first | assumption | (unfold vp_in; decide) | ((with_reducible (refine vp_in_nI ?_ ?_)) <;> omega), ?_⟩ | fail)
    refine Halt.mk ?_
    show T mX4_swap Q 34 [some (.ref 0), some (.int (nI m)), some (.int (swJ K n m row q i k (i + 1) p).2), some (.int (swJ K n m row q i k (i + 1) p).1), some (.int (nI i + 1)), some (.int (nI q))] [] S1
    rw [nI_1]
    exact ih (i + 1) _ S1 _ (by omega) h1' h1
def F_swap (K : Mem) (n : Nat) (row : Nat → Int32) (q : Nat) (m : Int32) : Ans := if okM m then (0, (swI K n (ix m) row q q 0 (-9, rowK n (ix m) row q 0 K 5 (ix m) - K 5 (ix m))).1) else (1, -1)
set_option maxRecDepth 100000 in
theorem X4_swap (H : Rules C T) {S K : Mem} {n : Nat} (X : XK S K n) {row : Nat → Int32} {q : Nat} (XQ : XR S row q) {m : Int32} {Q : Pst} (h1 : AnsX S (F_swap K n row q m) Q) : C mX4_swap [.ref 0, .int m] S Q := by
  have X0 := X
  have XQ0 := XQ
  obtain ⟨R, hn, hn8, hz⟩ := X
  obtain ⟨hq, h6, hrow⟩ := XQ
  unfold F_swap at h1
  refine Rules.go H (by decide) (Nat.le_of_ble_eq_true rfl) ?_
  repeat' (first | (refine Rules.st H okX4_swap [34] ?_; conv => whnf) | refine br_t (by first | decide | assumption) ?_ | refine br_f (by first | decide | assumption) ?_ | refine br_c (fun _ => ?_) (fun _ => ?_) | refine ⟨by decide, ?_⟩ | refine ⟨by first | assumption | (unfold vp_in; decide) | ((with_reducible (refine vp_in_nI ?_ ?_)) <;> omega), ?_⟩ | fail)
  refine X1_hasMaid H (fun i hi e => ?_) (fun hno => ?_)
  · subst e
    rw [show ix (nI i) = i from nIc (by omega), if_pos (okM_nI hi)] at h1
    repeat' (first | (refine Rules.st H okX4_swap [34] ?_; conv => whnf) | refine br_t (by first | decide | assumption) ?_ | refine br_f (by first | decide | assumption) ?_ | refine br_c (fun _ => ?_) (fun _ => ?_) | refine ⟨by decide, ?_⟩ | refine ⟨by first | assumption | (unfold vp_in; decide) | ((with_reducible (refine vp_in_nI ?_ ?_)) <;> omega), ?_⟩ | fail)
    refine X4_thinkRow H hn8 hi hq h6 hrow R hz hn (fun S1 R1 F1 => ?_)
    repeat' (first | (refine Rules.st H okX4_swap [34] ?_; conv => whnf) | refine br_t (by first | decide | assumption) ?_ | refine br_f (by first | decide | assumption) ?_ | refine br_c (fun _ => ?_) (fun _ => ?_) | refine ⟨by decide, ?_⟩ | refine ⟨by first | assumption | (unfold vp_in; decide) | ((with_reducible (refine vp_in_nI ?_ ?_)) <;> omega), ?_⟩ | fail)
    refine X4_thoughtMinutes H (R.fr F1 (by omega)) R1 hi ?_
    repeat' (first | (refine Rules.st H okX4_swap [34] ?_; conv => whnf) | refine br_t (by first | decide | assumption) ?_ | refine br_f (by first | decide | assumption) ?_ | refine br_c (fun _ => ?_) (fun _ => ?_) | refine ⟨by decide, ?_⟩ | refine ⟨by first | assumption | (unfold vp_in; decide) | ((with_reducible (refine vp_in_nI ?_ ?_)) <;> omega), ?_⟩ | fail)
    exact Halt.mk (X4_swap_i H hi X0 XQ0 q 0 (-9, rowK n i row q 0 K 5 i - K 5 i) S1 none (by omega) (ScX.f7 F1) h1)
  · rw [if_neg (okM_neg hno)] at h1
    repeat' (first | (refine Rules.st H okX4_swap [34] ?_; conv => whnf) | refine br_t (by first | decide | assumption) ?_ | refine br_f (by first | decide | assumption) ?_ | refine br_c (fun _ => ?_) (fun _ => ?_) | refine ⟨by decide, ?_⟩ | refine ⟨by first | assumption | (unfold vp_in; decide) | ((with_reducible (refine vp_in_nI ?_ ?_)) <;> omega), ?_⟩ | fail)
    refine X4_ref H (ScX.rf) (k := 1) (by omega) (by omega) (by decide) (fun S' hS' => ?_)
    repeat' (first | (refine Rules.st H okX4_swap [34] ?_; conv => whnf) | refine br_t (by first | decide | assumption) ?_ | refine br_f (by first | decide | assumption) ?_ | refine br_c (fun _ => ?_) (fun _ => ?_) | refine ⟨by decide, ?_⟩ | refine ⟨by first | assumption | (unfold vp_in; decide) | ((with_reducible (refine vp_in_nI ?_ ?_)) <;> omega), ?_⟩ | fail)
    exact h1 S' hS'
/-! mornings by lot -/
def drawK : Nat → Nat → Int32 → Mem → Int32 × Mem
  | 0, _, z, K => (z, K)
  | k + 1, i, z, K => drawK k (i + 1) (seedI z) (up K 2 i (drawI (seedI z)))
set_option maxRecDepth 100000 in
theorem drawK_n : ∀ (k i : Nat) (z : Int32) (K : Mem), (drawK k i z K).2 0 0 = K 0 0
  | 0, _, _, _ => rfl
  | k + 1, i, z, K => by
    unfold drawK
    rw [drawK_n, up_k (by omega)]
abbrev Lot : Type := Int32 × Int32 × Int32
def lotsK (K : Mem) (n : Nat) : Nat → Lot → Lot
  | 0, p => p
  | k + 1, p => lotsK K n k ((drawK n 0 p.1 K).1, p.2.1 + pcI (longK 0 n (drawK n 0 p.1 K).2 0 1), p.2.2 + (longK 0 n (drawK n 0 p.1 K).2 5 0 - K 5 0))
set_option maxRecDepth 100000 in
theorem X4_lots_d (H : Rules C T) {K : Mem} {n : Nat} {a0 a1 a2 a3 a5 a6 a7 : Int32} {Q : Pst} {S0 : Mem} (X0 : XK S0 K n) : ∀ (k i : Nat) (z : Int32) (K' S : Mem), i + k = n → Fr 7 12 S0 S → RepC 7 S K' → (∀ S', Fr 7 12 S0 S' → RepC 7 S' (drawK k i z K').2 → T mX4_lots Q 66 [some (.ref 0), some (.int a1), some (.int a2), some (.int a3), some (.int (drawK k i z K').1), some (.int a5), some (.int a6), some (.int a7), some (.int (nI n))] [] S') → T mX4_lots Q 66 [some (.ref 0), some (.int a1), some (.int a2), some (.int a3), some (.int z), some (.int a5), some (.int a6), some (.int a7), some (.int (nI i))] [] S := by
  obtain ⟨R0, hn, hn8, hz⟩ := X0
  intro k
  induction k with
  | zero =>
    intro i z K' S hi F R7 h1
    rw [show i = n by omega]
    exact h1 S F R7
  | succ k ih =>
    intro i z K' S hi F R7 h1
    have hge : ¬ nI n ≤ nI i := nI_ge (by omega) (by omega)
    unfold drawK at h1
    skip
    repeat' (first | (refine Rules.st H okX4_lots [66] ?_; conv => whnf) | refine br_t (by first | decide | assumption) ?_ | refine br_f (by first | decide | assumption) ?_ | refine br_c (fun _ => ?_) (fun _ => ?_) | refine ⟨by decide, ?_⟩ | refine ⟨by first | assumption | (unfold vp_in; decide) | ((with_reducible (refine vp_in_nI ?_ ?_)) <;> omega), ?_⟩ | fail)
    refine X1_rooms H (Or.inl rfl) (R0.fr F (by omega)) ?_
    rw [hn]
    repeat' (first | (refine Rules.st H okX4_lots [66] ?_; conv => whnf) | refine br_t (by first | decide | assumption) ?_ | refine br_f (by first | decide | assumption) ?_ | refine br_c (fun _ => ?_) (fun _ => ?_) | refine ⟨by decide, ?_⟩ | refine ⟨by first | assumption | (unfold vp_in; decide) | ((with_reducible (refine vp_in_nI ?_ ?_)) <;> omega), ?_⟩ | fail)
    refine X4_nextSeed H ?_
    repeat' (first | (refine Rules.st H okX4_lots [66] ?_; conv => whnf) | refine br_t (by first | decide | assumption) ?_ | refine br_f (by first | decide | assumption) ?_ | refine br_c (fun _ => ?_) (fun _ => ?_) | refine ⟨by decide, ?_⟩ | refine ⟨by first | assumption | (unfold vp_in; decide) | ((with_reducible (refine vp_in_nI ?_ ?_)) <;> omega), ?_⟩ | fail)
    refine X4_drawBelowTen H ?_
    repeat' (first | (refine Rules.st H okX4_lots [66] ?_; conv => whnf) | refine br_t (by first | decide | assumption) ?_ | refine br_f (by first | decide | assumption) ?_ | refine br_c (fun _ => ?_) (fun _ => ?_) | refine ⟨by decide, ?_⟩ | refine ⟨by first | assumption | (unfold vp_in; decide) | ((with_reducible (refine vp_in_nI ?_ ?_)) <;> omega), ?_⟩ | fail)
    refine X1_setFigure H (Or.inr (Or.inl rfl)) R7 (by omega) (fun S1 R1 F1 => ?_)
    repeat' (first | (refine Rules.st H okX4_lots [66] ?_; conv => whnf) | refine br_t (by first | decide | assumption) ?_ | refine br_f (by first | decide | assumption) ?_ | refine br_c (fun _ => ?_) (fun _ => ?_) | refine ⟨by decide, ?_⟩ | refine ⟨by first | assumption | (unfold vp_in; decide) | ((with_reducible (refine vp_in_nI ?_ ?_)) <;> omega), ?_⟩ | fail)
    refine Halt.mk ?_
    show T mX4_lots Q 66 [some (.ref 0), some (.int a1), some (.int a2), some (.int a3), some (.int (seedI z)), some (.int a5), some (.int a6), some (.int a7), some (.int (nI i + 1))] [] S1
    rw [nI_1]
    exact ih (i + 1) _ _ S1 (by omega) (F.tr F1) R1 h1
set_option maxRecDepth 100000 in
theorem X4_lots_l (H : Rules C T) {K : Mem} {n q : Nat} (hq : q ≤ 20) {z0 w : Int32} {Q : Pst} : ∀ (k i : Nat) (p : Lot) (S : Mem) (x : Option Value), i + k = q → XK S K n → (∀ S', Fr 7 12 S S' → Q (some (.int (if w = 0 then (lotsK K n k p).2.1 else (lotsK K n k p).2.2))) S') → T mX4_lots Q 53 [some (.ref 0), some (.int (nI q)), some (.int z0), some (.int w), some (.int p.1), some (.int p.2.1), some (.int p.2.2), some (.int (nI i)), x] [] S := by
  intro k
  induction k with
  | zero =>
    intro i p S x hi X h1
    have hge : nI q ≤ nI i := nI_le (by omega) (by omega)
    have h1 := h1 S Fr.rf
    skip
    repeat' (first | (refine Rules.st H okX4_lots [53] ?_; conv => whnf) | refine br_t (by first | decide | assumption) ?_ | refine br_f (by first | decide | assumption) ?_ | refine br_c (fun _ => ?_) (fun _ => ?_) | refine ⟨by decide, ?_⟩ | refine ⟨by first | assumption | (unfold vp_in; decide) | ((with_reducible (refine vp_in_nI ?_ ?_)) <;> omega), ?_⟩ | fail)
    · rw [if_pos (by assumption)] at h1
      exact h1
    · rw [if_neg (by assumption)] at h1
      exact h1
  | succ k ih =>
    intro i p S x hi X h1
    have X0 := X
    obtain ⟨R, hn, hn8, hz⟩ := X
    have hge : ¬ nI q ≤ nI i := nI_ge (by omega) (by omega)
    unfold lotsK at h1
    skip
    repeat' (first | (refine Rules.st H okX4_lots [53, 66] ?_; conv => whnf) | refine br_t (by first | decide | assumption) ?_ | refine br_f (by first | decide | assumption) ?_ | refine br_c (fun _ => ?_) (fun _ => ?_) | refine ⟨by decide, ?_⟩ | refine ⟨by first | assumption | (unfold vp_in; decide) | ((with_reducible (refine vp_in_nI ?_ ?_)) <;> omega), ?_⟩ | fail)
    refine X4_think H R hz (fun S1 R1 F1 => ?_)
    repeat' (first | (refine Rules.st H okX4_lots [53, 66] ?_; conv => whnf) | refine br_t (by first | decide | assumption) ?_ | refine br_f (by first | decide | assumption) ?_ | refine br_c (fun _ => ?_) (fun _ => ?_) | refine ⟨by decide, ?_⟩ | refine ⟨by first | assumption | (unfold vp_in; decide) | ((with_reducible (refine vp_in_nI ?_ ?_)) <;> omega), ?_⟩ | fail)
    refine Halt.mk (X4_lots_d H (a0 := 0) X0 n 0 p.1 K S1 (by omega) F1 R1 (fun S2 F2 R2 => ?_))
    have hge2 : nI n ≤ nI n := nI_le (by omega) (by omega)
    have R0 := R.fr F2 (by omega)
    skip
    repeat' (first | (refine Rules.st H okX4_lots [53] ?_; conv => whnf) | refine br_t (by first | decide | assumption) ?_ | refine br_f (by first | decide | assumption) ?_ | refine br_c (fun _ => ?_) (fun _ => ?_) | refine ⟨by decide, ?_⟩ | refine ⟨by first | assumption | (unfold vp_in; decide) | ((with_reducible (refine vp_in_nI ?_ ?_)) <;> omega), ?_⟩ | fail)
    refine X1_rooms H (Or.inl rfl) R0 ?_
    rw [hn]
    repeat' (first | (refine Rules.st H okX4_lots [53] ?_; conv => whnf) | refine br_t (by first | decide | assumption) ?_ | refine br_f (by first | decide | assumption) ?_ | refine br_c (fun _ => ?_) (fun _ => ?_) | refine ⟨by decide, ?_⟩ | refine ⟨by first | assumption | (unfold vp_in; decide) | ((with_reducible (refine vp_in_nI ?_ ?_)) <;> omega), ?_⟩ | fail)
    refine X1_longRound H (Or.inr (Or.inl rfl)) hn8 (m := 0) (by omega) R2 ((drawK_n _ _ _ _).trans hn) (fun S3 R3 F3 => ?_)
    have F : Fr 7 12 S S3 := F2.tr F3
    repeat' (first | (refine Rules.st H okX4_lots [53] ?_; conv => whnf) | refine br_t (by first | decide | assumption) ?_ | refine br_f (by first | decide | assumption) ?_ | refine br_c (fun _ => ?_) (fun _ => ?_) | refine ⟨by decide, ?_⟩ | refine ⟨by first | assumption | (unfold vp_in; decide) | ((with_reducible (refine vp_in_nI ?_ ?_)) <;> omega), ?_⟩ | fail)
    refine X1_doneCount H (Or.inr (Or.inl rfl)) R3 ?_
    repeat' (first | (refine Rules.st H okX4_lots [53] ?_; conv => whnf) | refine br_t (by first | decide | assumption) ?_ | refine br_f (by first | decide | assumption) ?_ | refine br_c (fun _ => ?_) (fun _ => ?_) | refine ⟨by decide, ?_⟩ | refine ⟨by first | assumption | (unfold vp_in; decide) | ((with_reducible (refine vp_in_nI ?_ ?_)) <;> omega), ?_⟩ | fail)
    refine X4_thoughtMinutes H (R.fr F (by omega)) R3 (m := 0) (by omega) ?_
    repeat' (first | (refine Rules.st H okX4_lots [53] ?_; conv => whnf) | refine br_t (by first | decide | assumption) ?_ | refine br_f (by first | decide | assumption) ?_ | refine br_c (fun _ => ?_) (fun _ => ?_) | refine ⟨by decide, ?_⟩ | refine ⟨by first | assumption | (unfold vp_in; decide) | ((with_reducible (refine vp_in_nI ?_ ?_)) <;> omega), ?_⟩ | fail)
    refine Halt.mk ?_
    have key := ih (i + 1) ((drawK n 0 p.1 K).1, p.2.1 + pcI (longK 0 n (drawK n 0 p.1 K).2 0 1), p.2.2 + (longK 0 n (drawK n 0 p.1 K).2 5 0 - K 5 0)) S3 (some (.int (nI n))) (by omega) ⟨R.fr F (by omega), hn, hn8, hz⟩ (fun S' F' => h1 S' (F.tr F'))
    rw [← nI_1] at key
    exact key
def F_lots (K : Mem) (n : Nat) (c z w : Int32) : Ans := if c < 1 then (4, -4) else if 20 < c then (6, -6) else if w < 0 ∨ 1 < w then (2, -2) else (0, if w = 0 then (lotsK K n (ix c) (z, 0, 0)).2.1 else (lotsK K n (ix c) (z, 0, 0)).2.2)
set_option maxRecDepth 100000 in
theorem X4_lots (H : Rules C T) {S K : Mem} {n : Nat} (X : XK S K n) {c z w : Int32} {Q : Pst} (h1 : AnsX S (F_lots K n c z w) Q) : C mX4_lots [.ref 0, .int c, .int z, .int w] S Q := by
  unfold F_lots at h1
  refine Rules.go H (by decide) (Nat.le_of_ble_eq_true rfl) ?_
  repeat' (first | (refine Rules.st H okX4_lots [53] ?_; conv => whnf) | refine br_t (by first | decide | assumption) ?_ | refine br_f (by first | decide | assumption) ?_ | refine br_c (fun _ => ?_) (fun _ => ?_) | refine ⟨by decide, ?_⟩ | refine ⟨by first | assumption | (unfold vp_in; decide) | ((with_reducible (refine vp_in_nI ?_ ?_)) <;> omega), ?_⟩ | fail)
  · rw [if_neg (Int32.not_lt.mpr (by assumption)), if_neg (Int32.not_lt.mpr (by assumption)), if_pos (Or.inl (by assumption))] at h1
    refine X4_ref H (ScX.rf) (k := 2) (by omega) (by omega) (by decide) (fun S' hS' => ?_)
    repeat' (first | (refine Rules.st H okX4_lots [53] ?_; conv => whnf) | refine br_t (by first | decide | assumption) ?_ | refine br_f (by first | decide | assumption) ?_ | refine br_c (fun _ => ?_) (fun _ => ?_) | refine ⟨by decide, ?_⟩ | refine ⟨by first | assumption | (unfold vp_in; decide) | ((with_reducible (refine vp_in_nI ?_ ?_)) <;> omega), ?_⟩ | fail)
    exact h1 S' hS'
  · have g1 : 1 ≤ c := by assumption
    have g2 : c ≤ 20 := by assumption
    rw [if_neg (Int32.not_lt.mpr g1), if_neg (Int32.not_lt.mpr g2), if_neg (fun z => z.elim (by assumption) (Int32.not_lt.mpr (by assumption)))] at h1
    obtain ⟨q, hq, e⟩ := nI_of (x := c) (fun z => absurd (Int32.lt_of_le_of_lt g1 z) (by decide))
    have hq8 : q ≤ 20 := by
      rw [e] at g2
      exact (nI_leI (b := 20) hq (by omega)).mp g2
    subst e
    rw [show ix (nI q) = q from nIc (by omega)] at h1
    exact Halt.mk (X4_lots_l H hq8 q 0 (z, 0, 0) S none (by omega) X (fun S' F' => h1 S' (ScX.f7 F')))
  · rw [if_neg (Int32.not_lt.mpr (by assumption)), if_neg (Int32.not_lt.mpr (by assumption)), if_pos (Or.inr (Int32.not_le.mp (by assumption)))] at h1
    refine X4_ref H (ScX.rf) (k := 2) (by omega) (by omega) (by decide) (fun S' hS' => ?_)
    repeat' (first | (refine Rules.st H okX4_lots [53] ?_; conv => whnf) | refine br_t (by first | decide | assumption) ?_ | refine br_f (by first | decide | assumption) ?_ | refine br_c (fun _ => ?_) (fun _ => ?_) | refine ⟨by decide, ?_⟩ | refine ⟨by first | assumption | (unfold vp_in; decide) | ((with_reducible (refine vp_in_nI ?_ ?_)) <;> omega), ?_⟩ | fail)
    exact h1 S' hS'
  · rw [if_neg (Int32.not_lt.mpr (by assumption)), if_pos (Int32.not_le.mp (by assumption))] at h1
    refine X4_ref H (ScX.rf) (k := 6) (by omega) (by omega) (by decide) (fun S' hS' => ?_)
    repeat' (first | (refine Rules.st H okX4_lots [53] ?_; conv => whnf) | refine br_t (by first | decide | assumption) ?_ | refine br_f (by first | decide | assumption) ?_ | refine br_c (fun _ => ?_) (fun _ => ?_) | refine ⟨by decide, ?_⟩ | refine ⟨by first | assumption | (unfold vp_in; decide) | ((with_reducible (refine vp_in_nI ?_ ?_)) <;> omega), ?_⟩ | fail)
    exact h1 S' hS'
  · rw [if_pos (Int32.not_le.mp (by assumption))] at h1
    refine X4_ref H (ScX.rf) (k := 4) (by omega) (by omega) (by decide) (fun S' hS' => ?_)
    repeat' (first | (refine Rules.st H okX4_lots [53] ?_; conv => whnf) | refine br_t (by first | decide | assumption) ?_ | refine br_f (by first | decide | assumption) ?_ | refine br_c (fun _ => ?_) (fun _ => ?_) | refine ⟨by decide, ?_⟩ | refine ⟨by first | assumption | (unfold vp_in; decide) | ((with_reducible (refine vp_in_nI ?_ ?_)) <;> omega), ?_⟩ | fail)
    exact h1 S' hS'
end X11
