section X14
variable {C : Cst} {T : Nat → Pst → Nat → Lcs → List Value → Mem → Prop}
/-! ## letters told: reading -/
def ltA (lt : Nat → Int32) (l p : Nat) : Int32 := if p < l then lt p else -1
def XU (S : Mem) (lt : Nat → Int32) (l : Nat) : Prop := XT S l ∧ ∀ j, j < l → S 20 j = lt j
def sgN (c : Int32) : Nat := if c = 98 ∨ c = 99 ∨ c = 100 then 1 else if c = 114 ∨ c = 118 then 2 else if c = 109 then 3 else if c = 116 then 4 else 0
set_option maxRecDepth 100000 in
theorem sgN_le (c : Int32) : sgN c ≤ 4 := by
  unfold sgN
  repeat' split
  all_goals omega
set_option maxRecDepth 100000 in
theorem X3_letterAt (H : Rules C T) {S : Mem} {lt : Nat → Int32} {l : Nat} (X : XU S lt l) {p : Nat} (hp : p < 1000) {Q : Pst} (h1 : Q (some (.int (ltA lt l p))) S) : C mX3_letterAt [.ref 19, .int (nI p)] S Q := by
  obtain ⟨⟨hl, e⟩, hlt⟩ := X
  have c0 : ¬ nI p < 0 := nI_pos (by omega)
  unfold ltA at h1
  by_cases h : p < l
  · rw [if_pos h, ← hlt p h] at h1
    have c1 : ¬ S 19 1 ≤ nI p := by rw [e]; exact nI_ge h (by omega)
    have c2 : ¬ Int32.ofNat 96 ≤ nI p := nI_ge (by omega) (by omega)
    have c3 : vp_in (nI p) 96 := vp_in_nI (by omega) (by omega)
    refine Rules.go H (by decide) (Nat.le_of_ble_eq_true rfl) ?_
    repeat' (first | (refine Rules.st H okX3_letterAt [] ?_; conv => whnf) | refine br_t (by first | decide | assumption) ?_ | refine br_f (by first | decide | assumption) ?_ | refine br_c (fun _ => ?_) (fun _ => ?_) | refine ⟨by decide, ?_⟩ | refine ⟨by first | assumption | (unfold vp_in; decide) | ((with_reducible (refine vp_in_nI ?_ ?_)) <;> omega), ?_⟩ | fail)
    rw [nIc (by omega)]
    exact h1
  · rw [if_neg h] at h1
    have c1 : S 19 1 ≤ nI p := by rw [e]; exact nI_le (by omega) (by omega)
    refine Rules.go H (by decide) (Nat.le_of_ble_eq_true rfl) ?_
    repeat' (first | (refine Rules.st H okX3_letterAt [] ?_; conv => whnf) | refine br_t (by first | decide | assumption) ?_ | refine br_f (by first | decide | assumption) ?_ | refine br_c (fun _ => ?_) (fun _ => ?_) | refine ⟨by decide, ?_⟩ | refine ⟨by first | assumption | (unfold vp_in; decide) | ((with_reducible (refine vp_in_nI ?_ ?_)) <;> omega), ?_⟩ | fail)
    exact h1
set_option maxRecDepth 100000 in
theorem X3_signsOf (H : Rules C T) {S : Mem} {c : Int32} {Q : Pst} (h : Q (some (.int (nI (sgN c)))) S) : C mX3_signsOf [.int c] S Q := by
  refine Rules.go H (by decide) (Nat.le_of_ble_eq_true rfl) ?_
  repeat' (first | (refine Rules.st H okX3_signsOf [] ?_; conv => whnf) | refine br_t (by first | decide | assumption) ?_ | refine br_f (by first | decide | assumption) ?_ | refine br_c (fun _ => ?_) (fun _ => ?_) | refine ⟨by decide, ?_⟩ | refine ⟨by first | assumption | (unfold vp_in; decide) | ((with_reducible (refine vp_in_nI ?_ ?_)) <;> omega), ?_⟩ | fail)
  all_goals (simp [sgN, *] at h; exact h)
def isDg (c : Int32) : Prop := 48 ≤ c ∧ c ≤ 57
def sgB (lt : Nat → Int32) (l p i : Nat) : Bool := if ltA lt l p = 114 ∧ i = 1 then decide (0 ≤ ofL (ltA lt l (p + i))) else decide (48 ≤ ltA lt l (p + i) ∧ ltA lt l (p + i) ≤ 57)
set_option maxRecDepth 100000 in
theorem X3_isSign (H : Rules C T) {S : Mem} {lt : Nat → Int32} {l : Nat} (X : XU S lt l) {p i : Nat} (hp : p < 500) (hi : i < 500) {Q : Pst} (h1 : sgB lt l p i = true → Q (some (.int 1)) S) (h0 : sgB lt l p i = false → Q (some (.int 0)) S) : C mX3_isSign [.ref 19, .int (nI p), .int (nI i)] S Q := by
  have dg : ∀ (c : Int32), (¬ c < 48 → ¬ 57 < c → 48 ≤ c ∧ c ≤ 57) := fun c a b => ⟨Int32.not_lt.mp a, Int32.not_lt.mp b⟩
  refine Rules.go H (by decide) (Nat.le_of_ble_eq_true rfl) ?_
  repeat' (first | (refine Rules.st H okX3_isSign [] ?_; conv => whnf) | refine br_t (by first | decide | assumption) ?_ | refine br_f (by first | decide | assumption) ?_ | refine br_c (fun _ => ?_) (fun _ => ?_) | refine ⟨by decide, ?_⟩ | refine ⟨by first | assumption | (unfold vp_in; decide) | ((with_reducible (refine vp_in_nI ?_ ?_)) <;> omega), ?_⟩ | fail)
  rw [nI_add]
  refine X3_letterAt H X (by omega) ?_
  repeat' (first | (refine Rules.st H okX3_isSign [] ?_; conv => whnf) | refine br_t (by first | decide | assumption) ?_ | refine br_f (by first | decide | assumption) ?_ | refine br_c (fun _ => ?_) (fun _ => ?_) | refine ⟨by decide, ?_⟩ | refine ⟨by first | assumption | (unfold vp_in; decide) | ((with_reducible (refine vp_in_nI ?_ ?_)) <;> omega), ?_⟩ | fail)
  refine X3_letterAt H X (by omega) ?_
  unfold sgB at h1 h0
  by_cases hr : ltA lt l p = 114
  · by_cases h1i : i = 1
    · rw [if_pos ⟨hr, h1i⟩] at h1 h0
      have ci : nI i = 1 := by rw [h1i]; rfl
      repeat' (first | (refine Rules.st H okX3_isSign [] ?_; conv => whnf) | refine br_t (by first | decide | assumption) ?_ | refine br_f (by first | decide | assumption) ?_ | refine br_c (fun _ => ?_) (fun _ => ?_) | refine ⟨by decide, ?_⟩ | refine ⟨by first | assumption | (unfold vp_in; decide) | ((with_reducible (refine vp_in_nI ?_ ?_)) <;> omega), ?_⟩ | fail)
      refine X2_ofLetter H ?_
      repeat' (first | (refine Rules.st H okX3_isSign [] ?_; conv => whnf) | refine br_t (by first | decide | assumption) ?_ | refine br_f (by first | decide | assumption) ?_ | refine br_c (fun _ => ?_) (fun _ => ?_) | refine ⟨by decide, ?_⟩ | refine ⟨by first | assumption | (unfold vp_in; decide) | ((with_reducible (refine vp_in_nI ?_ ?_)) <;> omega), ?_⟩ | fail)
      · exact h0 (decide_eq_false (Int32.not_le.mpr (by assumption)))
      · exact h1 (decide_eq_true (Int32.not_lt.mp (by assumption)))
    · rw [if_neg (fun z => h1i z.2)] at h1 h0
      have ci : ¬ nI i = 1 := fun z => h1i ((nI_eq (a := i) (b := 1) (by omega) (by omega)).mp z)
      repeat' (first | (refine Rules.st H okX3_isSign [] ?_; conv => whnf) | refine br_t (by first | decide | assumption) ?_ | refine br_f (by first | decide | assumption) ?_ | refine br_c (fun _ => ?_) (fun _ => ?_) | refine ⟨by decide, ?_⟩ | refine ⟨by first | assumption | (unfold vp_in; decide) | ((with_reducible (refine vp_in_nI ?_ ?_)) <;> omega), ?_⟩ | fail)
      · exact h0 (decide_eq_false (fun z => absurd z.1 (Int32.not_le.mpr (by assumption))))
      · exact h0 (decide_eq_false (fun z => absurd z.2 (Int32.not_le.mpr (by assumption))))
      · exact h1 (decide_eq_true (dg _ (by assumption) (by assumption)))
  · rw [if_neg (fun z => hr z.1)] at h1 h0
    repeat' (first | (refine Rules.st H okX3_isSign [] ?_; conv => whnf) | refine br_t (by first | decide | assumption) ?_ | refine br_f (by first | decide | assumption) ?_ | refine br_c (fun _ => ?_) (fun _ => ?_) | refine ⟨by decide, ?_⟩ | refine ⟨by first | assumption | (unfold vp_in; decide) | ((with_reducible (refine vp_in_nI ?_ ?_)) <;> omega), ?_⟩ | fail)
    · exact h0 (decide_eq_false (fun z => absurd z.1 (Int32.not_le.mpr (by assumption))))
    · exact h0 (decide_eq_false (fun z => absurd z.2 (Int32.not_le.mpr (by assumption))))
    · exact h1 (decide_eq_true (dg _ (by assumption) (by assumption)))
set_option maxRecDepth 100000 in
theorem X3_behindStatement (H : Rules C T) {S : Mem} {lt : Nat → Int32} {l : Nat} (X : XU S lt l) {p : Nat} (hp : p < 500) {Q : Pst} (h1 : Q (some (.int (nI (p + sgN (ltA lt l p) + 2)))) S) : C mX3_behindStatement [.ref 19, .int (nI p)] S Q := by
  refine Rules.go H (by decide) (Nat.le_of_ble_eq_true rfl) ?_
  repeat' (first | (refine Rules.st H okX3_behindStatement [] ?_; conv => whnf) | refine br_t (by first | decide | assumption) ?_ | refine br_f (by first | decide | assumption) ?_ | refine br_c (fun _ => ?_) (fun _ => ?_) | refine ⟨by decide, ?_⟩ | refine ⟨by first | assumption | (unfold vp_in; decide) | ((with_reducible (refine vp_in_nI ?_ ?_)) <;> omega), ?_⟩ | fail)
  refine X3_letterAt H X (by omega) ?_
  repeat' (first | (refine Rules.st H okX3_behindStatement [] ?_; conv => whnf) | refine br_t (by first | decide | assumption) ?_ | refine br_f (by first | decide | assumption) ?_ | refine br_c (fun _ => ?_) (fun _ => ?_) | refine ⟨by decide, ?_⟩ | refine ⟨by first | assumption | (unfold vp_in; decide) | ((with_reducible (refine vp_in_nI ?_ ?_)) <;> omega), ?_⟩ | fail)
  refine X3_signsOf H ?_
  repeat' (first | (refine Rules.st H okX3_behindStatement [] ?_; conv => whnf) | refine br_t (by first | decide | assumption) ?_ | refine br_f (by first | decide | assumption) ?_ | refine br_c (fun _ => ?_) (fun _ => ?_) | refine ⟨by decide, ?_⟩ | refine ⟨by first | assumption | (unfold vp_in; decide) | ((with_reducible (refine vp_in_nI ?_ ?_)) <;> omega), ?_⟩ | fail)
  rw [nI_add, show nI (p + sgN (ltA lt l p)) + 2 = nI (p + sgN (ltA lt l p) + 2) from nI_add _ 2]
  exact h1
/-- the first fault of a statement's signs from the i-th on, k to look at -/
def wsL (lt : Nat → Int32) (l p s : Nat) : Nat → Nat → Option Nat
  | 0, _ => if ltA lt l (p + s + 1) = 59 then none else some (p + s + 1)
  | k + 1, i => if p + i < l ∧ sgB lt l p i = true then wsL lt l p s k (i + 1) else some (p + i)
def optI (o : Option Nat) : Int32 := match o with
  | none => -1
  | some w => nI w
set_option maxRecDepth 100000 in
theorem X3_wrongInStatement_l (H : Rules C T) {S : Mem} {lt : Nat → Int32} {l : Nat} (X : XU S lt l) {p s : Nat} (hp : p < 200) (hs : s ≤ 4) {Q : Pst} : ∀ (k i : Nat), i + k = s + 1 → Q (some (.int (optI (wsL lt l p s k i)))) S → T mX3_wrongInStatement Q 17 [some (.ref 19), some (.int (nI p)), some (.int (nI s)), some (.int (nI i))] [] S := by
  intro k
  have hl := X.1.1
  have e := X.1.2
  induction k with
  | zero =>
    intro i hi h1
    have hge : nI s < nI i := nI_lt (by omega) (by omega)
    unfold wsL at h1
    skip
    repeat' (first | (refine Rules.st H okX3_wrongInStatement [17] ?_; conv => whnf) | refine br_t (by first | decide | assumption) ?_ | refine br_f (by first | decide | assumption) ?_ | refine br_c (fun _ => ?_) (fun _ => ?_) | refine ⟨by decide, ?_⟩ | refine ⟨by first | assumption | (unfold vp_in; decide) | ((with_reducible (refine vp_in_nI ?_ ?_)) <;> omega), ?_⟩ | fail)
    rw [nI_add, show nI (p + s) + 1 = nI (p + s + 1) from nI_1 _]
    refine X3_letterAt H X (by omega) ?_
    repeat' (first | (refine Rules.st H okX3_wrongInStatement [17] ?_; conv => whnf) | refine br_t (by first | decide | assumption) ?_ | refine br_f (by first | decide | assumption) ?_ | refine br_c (fun _ => ?_) (fun _ => ?_) | refine ⟨by decide, ?_⟩ | refine ⟨by first | assumption | (unfold vp_in; decide) | ((with_reducible (refine vp_in_nI ?_ ?_)) <;> omega), ?_⟩ | fail)
    · rw [if_pos (by assumption)] at h1
      exact h1
    · rw [if_neg (by assumption)] at h1
      exact h1
  | succ k ih =>
    intro i hi h1
    have hge : ¬ nI s < nI i := nI_nlt (by omega) (by omega)
    unfold wsL at h1
    by_cases hpl : p + i < l
    · have c1 : ¬ S 19 1 ≤ nI p + nI i := by rw [e, nI_add]; exact nI_ge hpl (by omega)
      skip
      repeat' (first | (refine Rules.st H okX3_wrongInStatement [17] ?_; conv => whnf) | refine br_t (by first | decide | assumption) ?_ | refine br_f (by first | decide | assumption) ?_ | refine br_c (fun _ => ?_) (fun _ => ?_) | refine ⟨by decide, ?_⟩ | refine ⟨by first | assumption | (unfold vp_in; decide) | ((with_reducible (refine vp_in_nI ?_ ?_)) <;> omega), ?_⟩ | fail)
      refine X3_isSign H X (by omega) (by omega) (fun g => ?_) (fun g => ?_)
      · rw [if_pos ⟨hpl, g⟩] at h1
        repeat' (first | (refine Rules.st H okX3_wrongInStatement [17] ?_; conv => whnf) | refine br_t (by first | decide | assumption) ?_ | refine br_f (by first | decide | assumption) ?_ | refine br_c (fun _ => ?_) (fun _ => ?_) | refine ⟨by decide, ?_⟩ | refine ⟨by first | assumption | (unfold vp_in; decide) | ((with_reducible (refine vp_in_nI ?_ ?_)) <;> omega), ?_⟩ | fail)
        refine Halt.mk ?_
        show T mX3_wrongInStatement Q 17 [some (.ref 19), some (.int (nI p)), some (.int (nI s)), some (.int (nI i + 1))] [] S
        rw [nI_1]
        exact ih (i + 1) (by omega) h1
      · rw [if_neg (fun z => by rw [g] at z; exact absurd z.2 (by decide))] at h1
        repeat' (first | (refine Rules.st H okX3_wrongInStatement [17] ?_; conv => whnf) | refine br_t (by first | decide | assumption) ?_ | refine br_f (by first | decide | assumption) ?_ | refine br_c (fun _ => ?_) (fun _ => ?_) | refine ⟨by decide, ?_⟩ | refine ⟨by first | assumption | (unfold vp_in; decide) | ((with_reducible (refine vp_in_nI ?_ ?_)) <;> omega), ?_⟩ | fail)
        rw [nI_add]
        exact h1
    · have c1 : S 19 1 ≤ nI p + nI i := by rw [e, nI_add]; exact nI_le (by omega) (by omega)
      rw [if_neg (fun z => hpl z.1)] at h1
      skip
      repeat' (first | (refine Rules.st H okX3_wrongInStatement [17] ?_; conv => whnf) | refine br_t (by first | decide | assumption) ?_ | refine br_f (by first | decide | assumption) ?_ | refine br_c (fun _ => ?_) (fun _ => ?_) | refine ⟨by decide, ?_⟩ | refine ⟨by first | assumption | (unfold vp_in; decide) | ((with_reducible (refine vp_in_nI ?_ ?_)) <;> omega), ?_⟩ | fail)
      rw [nI_add]
      exact h1
def wis (lt : Nat → Int32) (l p : Nat) : Option Nat := if sgN (ltA lt l p) = 0 then some p else wsL lt l p (sgN (ltA lt l p)) (sgN (ltA lt l p)) 1
set_option maxRecDepth 100000 in
theorem X3_wrongInStatement (H : Rules C T) {S : Mem} {lt : Nat → Int32} {l : Nat} (X : XU S lt l) {p : Nat} (hp : p < 200) {Q : Pst} (h1 : Q (some (.int (optI (wis lt l p)))) S) : C mX3_wrongInStatement [.ref 19, .int (nI p)] S Q := by
  unfold wis at h1
  have h4 := sgN_le (ltA lt l p)
  refine Rules.go H (by decide) (Nat.le_of_ble_eq_true rfl) ?_
  repeat' (first | (refine Rules.st H okX3_wrongInStatement [17] ?_; conv => whnf) | refine br_t (by first | decide | assumption) ?_ | refine br_f (by first | decide | assumption) ?_ | refine br_c (fun _ => ?_) (fun _ => ?_) | refine ⟨by decide, ?_⟩ | refine ⟨by first | assumption | (unfold vp_in; decide) | ((with_reducible (refine vp_in_nI ?_ ?_)) <;> omega), ?_⟩ | fail)
  refine X3_letterAt H X (by omega) ?_
  repeat' (first | (refine Rules.st H okX3_wrongInStatement [17] ?_; conv => whnf) | refine br_t (by first | decide | assumption) ?_ | refine br_f (by first | decide | assumption) ?_ | refine br_c (fun _ => ?_) (fun _ => ?_) | refine ⟨by decide, ?_⟩ | refine ⟨by first | assumption | (unfold vp_in; decide) | ((with_reducible (refine vp_in_nI ?_ ?_)) <;> omega), ?_⟩ | fail)
  refine X3_signsOf H ?_
  by_cases h0 : sgN (ltA lt l p) = 0
  · rw [if_pos h0] at h1
    have c0 : nI (sgN (ltA lt l p)) = 0 := by rw [h0]; rfl
    repeat' (first | (refine Rules.st H okX3_wrongInStatement [17] ?_; conv => whnf) | refine br_t (by first | decide | assumption) ?_ | refine br_f (by first | decide | assumption) ?_ | refine br_c (fun _ => ?_) (fun _ => ?_) | refine ⟨by decide, ?_⟩ | refine ⟨by first | assumption | (unfold vp_in; decide) | ((with_reducible (refine vp_in_nI ?_ ?_)) <;> omega), ?_⟩ | fail)
    exact h1
  · rw [if_neg h0] at h1
    have c0 : ¬ nI (sgN (ltA lt l p)) = 0 := nI_ne0 (by omega) (by omega)
    repeat' (first | (refine Rules.st H okX3_wrongInStatement [17] ?_; conv => whnf) | refine br_t (by first | decide | assumption) ?_ | refine br_f (by first | decide | assumption) ?_ | refine br_c (fun _ => ?_) (fun _ => ?_) | refine ⟨by decide, ?_⟩ | refine ⟨by first | assumption | (unfold vp_in; decide) | ((with_reducible (refine vp_in_nI ?_ ?_)) <;> omega), ?_⟩ | fail)
    refine Halt.mk ?_
    exact X3_wrongInStatement_l H X hp h4 _ 1 (by omega) h1
/-- the statements' places, or the first fault -/
def scn (lt : Nat → Int32) (l : Nat) : Nat → Nat → Nat ⊕ List Nat
  | 0, _ => .inr []
  | f + 1, p => if p < l then match wis lt l p with
    | some w => .inl w
    | none => match scn lt l f (p + sgN (ltA lt l p) + 2) with
      | .inl w => .inl w
      | .inr q => .inr (p :: q)
    else .inr []
def scnI (s : Nat ⊕ List Nat) : Int32 := match s with
  | .inl w => nI w
  | .inr _ => -1
set_option maxRecDepth 100000 in
theorem wsL_none {lt : Nat → Int32} {l p s : Nat} : ∀ {k i : Nat}, wsL lt l p s k i = none → ltA lt l (p + s + 1) = 59
  | 0, i, h => by
    unfold wsL at h
    split at h
    · assumption
    · cases h
  | k + 1, i, h => by
    unfold wsL at h
    split at h
    · exact wsL_none h
    · cases h
set_option maxRecDepth 100000 in
theorem ltA_lt {lt : Nat → Int32} {l q : Nat} {v : Int32} (h : ltA lt l q = v) (hv : ¬ (-1 : Int32) = v) : q < l := by
  unfold ltA at h
  split at h
  · assumption
  · exact absurd h hv
set_option maxRecDepth 100000 in
theorem wis_none {lt : Nat → Int32} {l p : Nat} (h : wis lt l p = none) : p + sgN (ltA lt l p) + 2 ≤ l := by
  unfold wis at h
  split at h
  · cases h
  · have := ltA_lt (wsL_none h) (by decide)
    omega
set_option maxRecDepth 100000 in
theorem wsL_le {lt : Nat → Int32} {l p s : Nat} : ∀ {k i w : Nat}, i + k = s + 1 → wsL lt l p s k i = some w → w ≤ p + s + 1
  | 0, i, w, hi, h => by
    unfold wsL at h
    split at h
    · cases h
    · cases h; omega
  | k + 1, i, w, hi, h => by
    unfold wsL at h
    split at h
    · exact wsL_le (by omega) h
    · cases h; omega
set_option maxRecDepth 100000 in
theorem wis_le {lt : Nat → Int32} {l p w : Nat} (h : wis lt l p = some w) : w ≤ p + 5 := by
  have h4 := sgN_le (ltA lt l p)
  unfold wis at h
  split at h
  · cases h; omega
  · have := wsL_le (by omega) h; omega
set_option maxRecDepth 100000 in
theorem X3_wrongLetter_l (H : Rules C T) {S : Mem} {lt : Nat → Int32} {l : Nat} (X : XU S lt l) {Q : Pst} : ∀ (f i p : Nat) (x : Option Value), i + f = l → p ≤ l → i ≤ p → Q (some (.int (scnI (scn lt l f p)))) S → T mX3_wrongLetter Q 13 [some (.ref 19), some (.int (nI p)), some (.int (nI i)), x] [] S := by
  intro f
  have hl := X.1.1
  have e := X.1.2
  induction f with
  | zero =>
    intro i p x hi hp hip h1
    have hge : S 19 1 ≤ nI i := by rw [e]; exact nI_le (by omega) (by omega)
    skip
    repeat' (first | (refine Rules.st H okX3_wrongLetter [13] ?_; conv => whnf) | refine br_t (by first | decide | assumption) ?_ | refine br_f (by first | decide | assumption) ?_ | refine br_c (fun _ => ?_) (fun _ => ?_) | refine ⟨by decide, ?_⟩ | refine ⟨by first | assumption | (unfold vp_in; decide) | ((with_reducible (refine vp_in_nI ?_ ?_)) <;> omega), ?_⟩ | fail)
    exact h1
  | succ f ih =>
    intro i p x hi hp hip h1
    have hge : ¬ S 19 1 ≤ nI i := by rw [e]; exact nI_ge (by omega) (by omega)
    unfold scn at h1
    by_cases hpl : p < l
    · rw [if_pos hpl] at h1
      have c1 : ¬ S 19 1 ≤ nI p := by rw [e]; exact nI_ge hpl (by omega)
      skip
      repeat' (first | (refine Rules.st H okX3_wrongLetter [13] ?_; conv => whnf) | refine br_t (by first | decide | assumption) ?_ | refine br_f (by first | decide | assumption) ?_ | refine br_c (fun _ => ?_) (fun _ => ?_) | refine ⟨by decide, ?_⟩ | refine ⟨by first | assumption | (unfold vp_in; decide) | ((with_reducible (refine vp_in_nI ?_ ?_)) <;> omega), ?_⟩ | fail)
      refine X3_wrongInStatement H X (by omega) ?_
      cases hw : wis lt l p with
      | some w =>
        rw [hw] at h1
        have hwb := wis_le hw
        have c2 : ¬ optI (some w) < 0 := nI_pos (by omega)
        repeat' (first | (refine Rules.st H okX3_wrongLetter [13] ?_; conv => whnf) | refine br_t (by first | decide | assumption) ?_ | refine br_f (by first | decide | assumption) ?_ | refine br_c (fun _ => ?_) (fun _ => ?_) | refine ⟨by decide, ?_⟩ | refine ⟨by first | assumption | (unfold vp_in; decide) | ((with_reducible (refine vp_in_nI ?_ ?_)) <;> omega), ?_⟩ | fail)
        exact h1
      | none =>
        rw [hw] at h1
        have hb := wis_none hw
        have c2 : optI none < 0 := by decide
        repeat' (first | (refine Rules.st H okX3_wrongLetter [13] ?_; conv => whnf) | refine br_t (by first | decide | assumption) ?_ | refine br_f (by first | decide | assumption) ?_ | refine br_c (fun _ => ?_) (fun _ => ?_) | refine ⟨by decide, ?_⟩ | refine ⟨by first | assumption | (unfold vp_in; decide) | ((with_reducible (refine vp_in_nI ?_ ?_)) <;> omega), ?_⟩ | fail)
        refine X3_behindStatement H X (by omega) ?_
        repeat' (first | (refine Rules.st H okX3_wrongLetter [13] ?_; conv => whnf) | refine br_t (by first | decide | assumption) ?_ | refine br_f (by first | decide | assumption) ?_ | refine br_c (fun _ => ?_) (fun _ => ?_) | refine ⟨by decide, ?_⟩ | refine ⟨by first | assumption | (unfold vp_in; decide) | ((with_reducible (refine vp_in_nI ?_ ?_)) <;> omega), ?_⟩ | fail)
        refine Halt.mk ?_
        show T mX3_wrongLetter Q 13 [some (.ref 19), some (.int (nI (p + sgN (ltA lt l p) + 2))), some (.int (nI i + 1)), some (.int (optI none))] [] S
        rw [nI_1]
        refine ih (i + 1) _ _ (by omega) hb (by omega) ?_
        generalize scn lt l f (p + sgN (ltA lt l p) + 2) = z at h1 ⊢
        cases z <;> exact h1
    · have c1 : S 19 1 ≤ nI p := by rw [e]; exact nI_le (by omega) (by omega)
      rw [if_neg hpl] at h1
      skip
      repeat' (first | (refine Rules.st H okX3_wrongLetter [13] ?_; conv => whnf) | refine br_t (by first | decide | assumption) ?_ | refine br_f (by first | decide | assumption) ?_ | refine br_c (fun _ => ?_) (fun _ => ?_) | refine ⟨by decide, ?_⟩ | refine ⟨by first | assumption | (unfold vp_in; decide) | ((with_reducible (refine vp_in_nI ?_ ?_)) <;> omega), ?_⟩ | fail)
      exact h1
set_option maxRecDepth 100000 in
theorem X3_wrongLetter (H : Rules C T) {S : Mem} {lt : Nat → Int32} {l : Nat} (X : XU S lt l) {Q : Pst} (h1 : Q (some (.int (scnI (if l = 0 then .inl 0 else scn lt l l 0)))) S) : C mX3_wrongLetter [.ref 19] S Q := by
  have e := X.1.2
  by_cases h : l = 0
  · rw [if_pos h] at h1
    have c0 : S 19 1 = 0 := by rw [e, h]; rfl
    refine Rules.go H (by decide) (Nat.le_of_ble_eq_true rfl) ?_
    repeat' (first | (refine Rules.st H okX3_wrongLetter [] ?_; conv => whnf) | refine br_t (by first | decide | assumption) ?_ | refine br_f (by first | decide | assumption) ?_ | refine br_c (fun _ => ?_) (fun _ => ?_) | refine ⟨by decide, ?_⟩ | refine ⟨by first | assumption | (unfold vp_in; decide) | ((with_reducible (refine vp_in_nI ?_ ?_)) <;> omega), ?_⟩ | fail)
    exact h1
  · rw [if_neg h] at h1
    have c0 : ¬ S 19 1 = 0 := by rw [e]; exact nI_ne0 (by omega) (by have := X.1.1; omega)
    refine Rules.go H (by decide) (Nat.le_of_ble_eq_true rfl) ?_
    repeat' (first | (refine Rules.st H okX3_wrongLetter [13] ?_; conv => whnf) | refine br_t (by first | decide | assumption) ?_ | refine br_f (by first | decide | assumption) ?_ | refine br_c (fun _ => ?_) (fun _ => ?_) | refine ⟨by decide, ?_⟩ | refine ⟨by first | assumption | (unfold vp_in; decide) | ((with_reducible (refine vp_in_nI ?_ ?_)) <;> omega), ?_⟩ | fail)
    exact Halt.mk (X3_wrongLetter_l H X l 0 0 none (by omega) (by omega) (by omega) h1)
/-! ## letters told: statements -/
set_option maxRecDepth 100000 in
theorem X3_maidComes (H : Rules C T) {n : Nat} {S K : Mem} (R : RepC 7 S K) (hn : K 0 0 = nI n) (hn8 : n ≤ 8) {m p w : Int32} {Q : Pst} (h0 : ¬ (okM m ∧ okP n p ∧ ¬ 6 < w) → Q (some (.int 0)) S) (h1 : okM m ∧ okP n p ∧ ¬ 6 < w → ∀ S', RepC 7 S' (up (up K 3 (ix m) p) 4 (ix m) w) → Fr 7 12 S S' → Q (some (.int 1)) S') : C mX3_maidComes [.ref 7, .int m, .int p, .int w] S Q := by
  refine Rules.go H (by decide) (Nat.le_of_ble_eq_true rfl) ?_
  repeat' (first | (refine Rules.st H okX3_maidComes [] ?_; conv => whnf) | refine br_t (by first | decide | assumption) ?_ | refine br_f (by first | decide | assumption) ?_ | refine br_c (fun _ => ?_) (fun _ => ?_) | refine ⟨by decide, ?_⟩ | refine ⟨by first | assumption | (unfold vp_in; decide) | ((with_reducible (refine vp_in_nI ?_ ?_)) <;> omega), ?_⟩ | fail)
  refine X1_hasMaid H (fun i hi e => ?_) (fun hno => ?_)
  · repeat' (first | (refine Rules.st H okX3_maidComes [] ?_; conv => whnf) | refine br_t (by first | decide | assumption) ?_ | refine br_f (by first | decide | assumption) ?_ | refine br_c (fun _ => ?_) (fun _ => ?_) | refine ⟨by decide, ?_⟩ | refine ⟨by first | assumption | (unfold vp_in; decide) | ((with_reducible (refine vp_in_nI ?_ ?_)) <;> omega), ?_⟩ | fail)
    refine X1_hasPlace H (Or.inr (Or.inl rfl)) R hn hn8 (fun r hr e2 => ?_) (fun hno => ?_)
    · by_cases hw : w ≤ 6
      · have h1 := h1 ⟨by rw [e]; exact okM_nI hi, by rw [e2]; exact okP_nI hn8 hr, Int32.not_lt.mpr hw⟩
        subst e
        rw [show ix (nI i) = i from nIc (by omega)] at h1
        repeat' (first | (refine Rules.st H okX3_maidComes [] ?_; conv => whnf) | refine br_t (by first | decide | assumption) ?_ | refine br_f (by first | decide | assumption) ?_ | refine br_c (fun _ => ?_) (fun _ => ?_) | refine ⟨by decide, ?_⟩ | refine ⟨by first | assumption | (unfold vp_in; decide) | ((with_reducible (refine vp_in_nI ?_ ?_)) <;> omega), ?_⟩ | fail)
        refine X1_setPlace H (Or.inr (Or.inl rfl)) R hi (fun S1 R1 F1 => ?_)
        repeat' (first | (refine Rules.st H okX3_maidComes [] ?_; conv => whnf) | refine br_t (by first | decide | assumption) ?_ | refine br_f (by first | decide | assumption) ?_ | refine br_c (fun _ => ?_) (fun _ => ?_) | refine ⟨by decide, ?_⟩ | refine ⟨by first | assumption | (unfold vp_in; decide) | ((with_reducible (refine vp_in_nI ?_ ?_)) <;> omega), ?_⟩ | fail)
        refine X1_setLoad H (Or.inr (Or.inl rfl)) R1 hi (fun S2 R2 F2 => ?_)
        repeat' (first | (refine Rules.st H okX3_maidComes [] ?_; conv => whnf) | refine br_t (by first | decide | assumption) ?_ | refine br_f (by first | decide | assumption) ?_ | refine br_c (fun _ => ?_) (fun _ => ?_) | refine ⟨by decide, ?_⟩ | refine ⟨by first | assumption | (unfold vp_in; decide) | ((with_reducible (refine vp_in_nI ?_ ?_)) <;> omega), ?_⟩ | fail)
        exact h1 S2 R2 (F1.tr F2)
      · have hw' := Int32.not_le.mp hw
        repeat' (first | (refine Rules.st H okX3_maidComes [] ?_; conv => whnf) | refine br_t (by first | decide | assumption) ?_ | refine br_f (by first | decide | assumption) ?_ | refine br_c (fun _ => ?_) (fun _ => ?_) | refine ⟨by decide, ?_⟩ | refine ⟨by first | assumption | (unfold vp_in; decide) | ((with_reducible (refine vp_in_nI ?_ ?_)) <;> omega), ?_⟩ | fail)
        exact h0 (fun z => z.2.2 hw')
    · repeat' (first | (refine Rules.st H okX3_maidComes [] ?_; conv => whnf) | refine br_t (by first | decide | assumption) ?_ | refine br_f (by first | decide | assumption) ?_ | refine br_c (fun _ => ?_) (fun _ => ?_) | refine ⟨by decide, ?_⟩ | refine ⟨by first | assumption | (unfold vp_in; decide) | ((with_reducible (refine vp_in_nI ?_ ?_)) <;> omega), ?_⟩ | fail)
      exact h0 (fun z => okP_neg hn8 hno z.2.1)
  · repeat' (first | (refine Rules.st H okX3_maidComes [] ?_; conv => whnf) | refine br_t (by first | decide | assumption) ?_ | refine br_f (by first | decide | assumption) ?_ | refine br_c (fun _ => ?_) (fun _ => ?_) | refine ⟨by decide, ?_⟩ | refine ⟨by first | assumption | (unfold vp_in; decide) | ((with_reducible (refine vp_in_nI ?_ ?_)) <;> omega), ?_⟩ | fail)
    exact h0 (fun z => okM_neg hno z.1)
abbrev NK : Type := Nat × Mem
def stmK (lt : Nat → Int32) (l p : Nat) (s : NK) : Option NK :=
  if ltA lt l p = 114 then if s.1 < 8 then some (s.1 + 1, addK s.2 s.1 (ofL (ltA lt l (p + 1))) (ltA lt l (p + 2) - 48)) else none
  else if ltA lt l p = 99 then if okR s.1 (ltA lt l (p + 1) - 48) then some (s.1, flipK s.2 2 (ix (ltA lt l (p + 1) - 48))) else none
  else if ltA lt l p = 100 then if okR s.1 (ltA lt l (p + 1) - 48) then some (s.1, flipK s.2 1 (ix (ltA lt l (p + 1) - 48))) else none
  else if ltA lt l p = 109 then if okM (ltA lt l (p + 1) - 48) ∧ okP s.1 (ltA lt l (p + 2) - 48) ∧ ¬ 6 < ltA lt l (p + 3) - 48 then some (s.1, up (up s.2 3 (ix (ltA lt l (p + 1) - 48)) (ltA lt l (p + 2) - 48)) 4 (ix (ltA lt l (p + 1) - 48)) (ltA lt l (p + 3) - 48)) else none
  else if ltA lt l p = 116 then if okM (ltA lt l (p + 1) - 48) then some (s.1, up s.2 5 (ix (ltA lt l (p + 1) - 48)) (100 * (ltA lt l (p + 2) - 48) + 10 * (ltA lt l (p + 3) - 48) + (ltA lt l (p + 4) - 48))) else none
  else if ltA lt l p = 118 then if okM (ltA lt l (p + 1) - 48) ∧ okR s.1 (ltA lt l (p + 2) - 48) then if 999 < laterK (visitK s.2 (ix (ltA lt l (p + 1) - 48)) (ix (ltA lt l (p + 2) - 48))).2 then none else some (s.1, (visitK s.2 (ix (ltA lt l (p + 1) - 48)) (ix (ltA lt l (p + 2) - 48))).2) else none
  else if ltA lt l p = 98 then if okR s.1 (ltA lt l (p + 1) - 48) then if 999 < laterK (bothK s.2 (ix (ltA lt l (p + 1) - 48))).2 then none else some (s.1, (bothK s.2 (ix (ltA lt l (p + 1) - 48))).2) else none
  else none
end X14
