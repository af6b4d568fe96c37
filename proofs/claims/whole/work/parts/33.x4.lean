section X4
variable {C : Cst} {T : Nat → Pst → Nat → Lcs → List Value → Mem → Prop}
/-! ## the class's calls: an answer is (the refusal's kind or 0, the answer) -/
def scrX (a : Nat) : Prop := (7 ≤ a ∧ a ≤ 12) ∨ a = 23 ∨ a = 24
def ScX (k : Nat) (S S' : Mem) : Prop := ∀ a j, ¬ scrX a → S' a j = if a = 22 ∧ j = k ∧ ¬ k = 0 then S a j + 1 else S a j
/-- the same, but the corridor that is may have changed -/
def ScY (k : Nat) (S S' : Mem) : Prop := ∀ a j, ¬ scrX a → ¬ (1 ≤ a ∧ a ≤ 6) → S' a j = if a = 22 ∧ j = k ∧ ¬ k = 0 then S a j + 1 else S a j
set_option maxRecDepth 100000 in
theorem ScX.rf {S : Mem} : ScX 0 S S := fun a j _ => by simp
set_option maxRecDepth 100000 in
theorem ScX.fr {S S' : Mem} {a b : Nat} (h : Fr a b S S') (hab : ∀ c, a ≤ c → c ≤ b → scrX c) : ScX 0 S S' := fun c j hc => by
  rw [if_neg (fun z => z.2.2 rfl)]
  refine h c j ?_
  by_cases h1 : c < a
  · exact Or.inl h1
  · refine Or.inr ?_
    by_cases h2 : b < c
    · exact h2
    · exact absurd (hab c (by omega) (by omega)) hc
set_option maxRecDepth 100000 in
theorem ScX.f7 {S S' : Mem} (h : Fr 7 12 S S') : ScX 0 S S' := ScX.fr h (fun c h1 h2 => Or.inl ⟨h1, h2⟩)
set_option maxRecDepth 100000 in
theorem ScX.f24 {S S' : Mem} (h : Fr 24 24 S S') : ScX 0 S S' := ScX.fr h (fun c h1 h2 => by unfold scrX; omega)
set_option maxRecDepth 100000 in
theorem ScX.f23 {S S' : Mem} (h : Fr 23 23 S S') : ScX 0 S S' := ScX.fr h (fun c h1 h2 => by unfold scrX; omega)
set_option maxRecDepth 100000 in
theorem ScX.tr {k : Nat} {S S1 S2 : Mem} (h1 : ScX 0 S S1) (h2 : ScX k S1 S2) : ScX k S S2 := fun a j ha => by
  have e := h1 a j ha
  rw [if_neg (fun z => z.2.2 rfl)] at e
  rw [h2 a j ha, e]
set_option maxRecDepth 100000 in
theorem ScX.ref {k : Nat} {S S1 : Mem} (h1 : ScX 0 S S1) (hk : ¬ k = 0) : ScX k S (up S1 22 k (S1 22 k + 1)) := h1.tr (fun a j ha => by
  by_cases q : a = 22 ∧ j = k
  · rw [q.1, q.2, up_at, if_pos ⟨rfl, rfl, hk⟩]
  · rw [if_neg (fun z => q ⟨z.1, z.2.1⟩)]
    simp [up, q])
set_option maxRecDepth 100000 in
theorem ScX.y {k : Nat} {S S' : Mem} (h : ScX k S S') : ScY k S S' := fun a j h1 _ => h a j h1
set_option maxRecDepth 100000 in
theorem ScX.at {S S' : Mem} (h : ScX 0 S S') {a : Nat} (ha : ¬ scrX a) (j : Nat) : S' a j = S a j := by
  rw [h a j ha, if_neg (fun z => z.2.2 rfl)]
set_option maxRecDepth 100000 in
theorem ScX.rep {k c : Nat} {S S' K : Mem} (h : ScX k S S') (R : RepC c S K) (hc : c = 1 ∨ c = 13) : RepC c S' K := fun o j hi => by
  rw [h (c + o) j (by unfold scrX; unfold inr at hi; omega), if_neg (by unfold inr at hi; omega)]
  exact R o j hi
set_option maxRecDepth 100000 in
theorem X4_ref (H : Rules C T) {S S1 : Mem} (hS : ScX 0 S S1) {x : Int32} {k : Nat} (hk : k < 7) (hk0 : ¬ k = 0) (hx : -x = nI k) {Q : Pst} (h1 : ∀ S', ScX k S S' → Q (some (.int x)) S') : C mX4_refuse [.ref 0, .int x] S1 Q := X4_refuse H hk hx (h1 _ (hS.ref hk0))
set_option maxRecDepth 100000 in
theorem X4_refL (H : Rules C T) {S S1 : Mem} (hS : ScX 0 S S1) {x : Int32} {k : Nat} (hk : k < 7) (hk0 : ¬ k = 0) (hx : -x = nI k) {Q : Pst} (h1 : ∀ S', ScX k S S' → Q (some (.long (4000000000000000000 - x.toInt64))) S') : C mX4_refuseLong [.ref 0, .int x] S1 Q := X4_refuseLong H hk hx (h1 _ (hS.ref hk0))
abbrev Ans : Type := Nat × Int32
def AnsX (S : Mem) (a : Ans) (Q : Pst) : Prop := ∀ S', ScX a.1 S S' → Q (some (.int a.2)) S'
/-- the class between calls: its corridor K of n rooms -/
def XK (S K : Mem) (n : Nat) : Prop := RepC 1 S K ∧ K 0 0 = nI n ∧ n ≤ 8 ∧ KZ K
abbrev ix (x : Int32) : Nat := x.toNatClampNeg
def bo (b : Prop) [Decidable b] : Int32 := if b then 1 else 0
def F_room (K : Mem) (n : Nat) (r w : Int32) : Ans :=
  if okR n r then
    if w = 0 then (0, K 1 (ix r)) else if w = 1 then (0, K 2 (ix r)) else if w = 2 then (0, if bt (K 0 1) (ix r) = 0 then 0 else 1) else if w = 3 then (0, if bt (K 0 2) (ix r) = 0 then 0 else 1)
    else if w = 4 then (0, workK K (ix r)) else if w = 5 then (0, linK K (ix r)) else if w = 6 then (0, tipK K (ix r)) else (2, -2)
  else (1, -1)
set_option maxRecDepth 100000 in
theorem X4_room (H : Rules C T) {S K : Mem} {n : Nat} (X : XK S K n) {r w : Int32} {Q : Pst} (h1 : AnsX S (F_room K n r w) Q) : C mX4_room [.ref 0, .int r, .int w] S Q := by
  obtain ⟨R, hn, hn8, hz⟩ := X
  unfold F_room at h1
  refine Rules.go H (by decide) (Nat.le_of_ble_eq_true rfl) ?_
  repeat' (first | (refine Rules.st H okX4_room [] ?_; conv => whnf) | refine br_t (by first | decide | assumption) ?_ | refine br_f (by first | decide | assumption) ?_ | refine br_c (fun _ => ?_) (fun _ => ?_) | refine ⟨by decide, ?_⟩ | refine ⟨by first | assumption | (unfold vp_in; decide) | ((with_reducible (refine vp_in_nI ?_ ?_)) <;> omega), ?_⟩ | fail)
  refine X1_hasRoom H (Or.inl rfl) R hn hn8 (fun i hi e => ?_) (fun hno => ?_)
  · rw [if_pos (by rw [e]; exact okR_nI hn8 hi)] at h1
    subst e
    rw [show ix (nI i) = i from nIc (by omega)] at h1
    have hi8 : i < 8 := by omega
    repeat' (first | (refine Rules.st H okX4_room [] ?_; conv => whnf) | refine br_t (by first | decide | assumption) ?_ | refine br_f (by first | decide | assumption) ?_ | refine br_c (fun _ => ?_) (fun _ => ?_) | refine ⟨by decide, ?_⟩ | refine ⟨by first | assumption | (unfold vp_in; decide) | ((with_reducible (refine vp_in_nI ?_ ?_)) <;> omega), ?_⟩ | fail)
    · rw [if_pos (by assumption)] at h1
      refine X1_kindOf H (Or.inl rfl) R hi8 ?_
      repeat' (first | (refine Rules.st H okX4_room [] ?_; conv => whnf) | refine br_t (by first | decide | assumption) ?_ | refine br_f (by first | decide | assumption) ?_ | refine br_c (fun _ => ?_) (fun _ => ?_) | refine ⟨by decide, ?_⟩ | refine ⟨by first | assumption | (unfold vp_in; decide) | ((with_reducible (refine vp_in_nI ?_ ?_)) <;> omega), ?_⟩ | fail)
      exact h1 S ScX.rf
    · rw [if_neg (by assumption), if_pos (by assumption)] at h1
      refine X1_figureOf H (Or.inl rfl) R hi8 ?_
      repeat' (first | (refine Rules.st H okX4_room [] ?_; conv => whnf) | refine br_t (by first | decide | assumption) ?_ | refine br_f (by first | decide | assumption) ?_ | refine br_c (fun _ => ?_) (fun _ => ?_) | refine ⟨by decide, ?_⟩ | refine ⟨by first | assumption | (unfold vp_in; decide) | ((with_reducible (refine vp_in_nI ?_ ?_)) <;> omega), ?_⟩ | fail)
      exact h1 S ScX.rf
    · rw [if_neg (by assumption), if_neg (by assumption), if_pos (by assumption)] at h1
      refine X1_isDone H (Or.inl rfl) R (fun g => ?_) (fun g => ?_)
      · rw [if_neg g] at h1
        repeat' (first | (refine Rules.st H okX4_room [] ?_; conv => whnf) | refine br_t (by first | decide | assumption) ?_ | refine br_f (by first | decide | assumption) ?_ | refine br_c (fun _ => ?_) (fun _ => ?_) | refine ⟨by decide, ?_⟩ | refine ⟨by first | assumption | (unfold vp_in; decide) | ((with_reducible (refine vp_in_nI ?_ ?_)) <;> omega), ?_⟩ | fail)
        exact h1 S ScX.rf
      · rw [if_pos g] at h1
        repeat' (first | (refine Rules.st H okX4_room [] ?_; conv => whnf) | refine br_t (by first | decide | assumption) ?_ | refine br_f (by first | decide | assumption) ?_ | refine br_c (fun _ => ?_) (fun _ => ?_) | refine ⟨by decide, ?_⟩ | refine ⟨by first | assumption | (unfold vp_in; decide) | ((with_reducible (refine vp_in_nI ?_ ?_)) <;> omega), ?_⟩ | fail)
        exact h1 S ScX.rf
    · rw [if_neg (by assumption), if_neg (by assumption), if_neg (by assumption), if_pos (by assumption)] at h1
      refine X1_hasCard H (Or.inl rfl) R (fun g => ?_) (fun g => ?_)
      · rw [if_neg g] at h1
        repeat' (first | (refine Rules.st H okX4_room [] ?_; conv => whnf) | refine br_t (by first | decide | assumption) ?_ | refine br_f (by first | decide | assumption) ?_ | refine br_c (fun _ => ?_) (fun _ => ?_) | refine ⟨by decide, ?_⟩ | refine ⟨by first | assumption | (unfold vp_in; decide) | ((with_reducible (refine vp_in_nI ?_ ?_)) <;> omega), ?_⟩ | fail)
        exact h1 S ScX.rf
      · rw [if_pos g] at h1
        repeat' (first | (refine Rules.st H okX4_room [] ?_; conv => whnf) | refine br_t (by first | decide | assumption) ?_ | refine br_f (by first | decide | assumption) ?_ | refine br_c (fun _ => ?_) (fun _ => ?_) | refine ⟨by decide, ?_⟩ | refine ⟨by first | assumption | (unfold vp_in; decide) | ((with_reducible (refine vp_in_nI ?_ ?_)) <;> omega), ?_⟩ | fail)
        exact h1 S ScX.rf
    · rw [if_neg (by assumption), if_neg (by assumption), if_neg (by assumption), if_neg (by assumption), if_pos (by assumption)] at h1
      refine X1_workOf H (Or.inl rfl) R hi8 ?_
      repeat' (first | (refine Rules.st H okX4_room [] ?_; conv => whnf) | refine br_t (by first | decide | assumption) ?_ | refine br_f (by first | decide | assumption) ?_ | refine br_c (fun _ => ?_) (fun _ => ?_) | refine ⟨by decide, ?_⟩ | refine ⟨by first | assumption | (unfold vp_in; decide) | ((with_reducible (refine vp_in_nI ?_ ?_)) <;> omega), ?_⟩ | fail)
      exact h1 S ScX.rf
    · rw [if_neg (by assumption), if_neg (by assumption), if_neg (by assumption), if_neg (by assumption), if_neg (by assumption), if_pos (by assumption)] at h1
      refine X1_linenOf H (Or.inl rfl) R hi8 ?_
      repeat' (first | (refine Rules.st H okX4_room [] ?_; conv => whnf) | refine br_t (by first | decide | assumption) ?_ | refine br_f (by first | decide | assumption) ?_ | refine br_c (fun _ => ?_) (fun _ => ?_) | refine ⟨by decide, ?_⟩ | refine ⟨by first | assumption | (unfold vp_in; decide) | ((with_reducible (refine vp_in_nI ?_ ?_)) <;> omega), ?_⟩ | fail)
      exact h1 S ScX.rf
    · rw [if_neg (by assumption), if_neg (by assumption), if_neg (by assumption), if_neg (by assumption), if_neg (by assumption), if_neg (by assumption), if_pos (by assumption)] at h1
      refine X1_tipOf H (Or.inl rfl) R hi8 ?_
      repeat' (first | (refine Rules.st H okX4_room [] ?_; conv => whnf) | refine br_t (by first | decide | assumption) ?_ | refine br_f (by first | decide | assumption) ?_ | refine br_c (fun _ => ?_) (fun _ => ?_) | refine ⟨by decide, ?_⟩ | refine ⟨by first | assumption | (unfold vp_in; decide) | ((with_reducible (refine vp_in_nI ?_ ?_)) <;> omega), ?_⟩ | fail)
      exact h1 S ScX.rf
    · rw [if_neg (by assumption), if_neg (by assumption), if_neg (by assumption), if_neg (by assumption), if_neg (by assumption), if_neg (by assumption), if_neg (by assumption)] at h1
      refine X4_ref H ScX.rf (k := 2) (by omega) (by omega) (by decide) (fun S' hS' => ?_)
      repeat' (first | (refine Rules.st H okX4_room [] ?_; conv => whnf) | refine br_t (by first | decide | assumption) ?_ | refine br_f (by first | decide | assumption) ?_ | refine br_c (fun _ => ?_) (fun _ => ?_) | refine ⟨by decide, ?_⟩ | refine ⟨by first | assumption | (unfold vp_in; decide) | ((with_reducible (refine vp_in_nI ?_ ?_)) <;> omega), ?_⟩ | fail)
      exact h1 S' hS'
  · rw [if_neg (okR_neg hn8 hno)] at h1
    repeat' (first | (refine Rules.st H okX4_room [] ?_; conv => whnf) | refine br_t (by first | decide | assumption) ?_ | refine br_f (by first | decide | assumption) ?_ | refine br_c (fun _ => ?_) (fun _ => ?_) | refine ⟨by decide, ?_⟩ | refine ⟨by first | assumption | (unfold vp_in; decide) | ((with_reducible (refine vp_in_nI ?_ ?_)) <;> omega), ?_⟩ | fail)
    refine X4_ref H ScX.rf (k := 1) (by omega) (by omega) (by decide) (fun S' hS' => ?_)
    repeat' (first | (refine Rules.st H okX4_room [] ?_; conv => whnf) | refine br_t (by first | decide | assumption) ?_ | refine br_f (by first | decide | assumption) ?_ | refine br_c (fun _ => ?_) (fun _ => ?_) | refine ⟨by decide, ?_⟩ | refine ⟨by first | assumption | (unfold vp_in; decide) | ((with_reducible (refine vp_in_nI ?_ ?_)) <;> omega), ?_⟩ | fail)
    exact h1 S' hS'
set_option maxRecDepth 100000 in
theorem okM_neg {x : Int32} (h : ∀ m, m < 2 → ¬ x = nI m) : ¬ okM x := fun z => by
  obtain ⟨m, hm, e⟩ := okM_iff.mp z
  exact h m hm e
set_option maxRecDepth 100000 in
theorem okM_nI {m : Nat} (h : m < 2) : okM (nI m) := okM_iff.mpr ⟨m, h, rfl⟩
def F_maid (K : Mem) (m w : Int32) : Ans :=
  if okM m then if w = 0 then (0, K 3 (ix m)) else if w = 1 then (0, K 4 (ix m)) else if w = 2 then (0, K 5 (ix m)) else (2, -2)
  else (1, -1)
set_option maxRecDepth 100000 in
theorem X4_maid (H : Rules C T) {S K : Mem} {n : Nat} (X : XK S K n) {m w : Int32} {Q : Pst} (h1 : AnsX S (F_maid K m w) Q) : C mX4_maid [.ref 0, .int m, .int w] S Q := by
  obtain ⟨R, hn, hn8, hz⟩ := X
  unfold F_maid at h1
  refine Rules.go H (by decide) (Nat.le_of_ble_eq_true rfl) ?_
  repeat' (first | (refine Rules.st H okX4_maid [] ?_; conv => whnf) | refine br_t (by first | decide | assumption) ?_ | refine br_f (by first | decide | assumption) ?_ | refine br_c (fun _ => ?_) (fun _ => ?_) | refine ⟨by decide, ?_⟩ | refine ⟨by first | assumption | (unfold vp_in; decide) | ((with_reducible (refine vp_in_nI ?_ ?_)) <;> omega), ?_⟩ | fail)
  refine X1_hasMaid H (fun i hi e => ?_) (fun hno => ?_)
  · rw [if_pos (by rw [e]; exact okM_nI hi)] at h1
    subst e
    rw [show ix (nI i) = i from nIc (by omega)] at h1
    repeat' (first | (refine Rules.st H okX4_maid [] ?_; conv => whnf) | refine br_t (by first | decide | assumption) ?_ | refine br_f (by first | decide | assumption) ?_ | refine br_c (fun _ => ?_) (fun _ => ?_) | refine ⟨by decide, ?_⟩ | refine ⟨by first | assumption | (unfold vp_in; decide) | ((with_reducible (refine vp_in_nI ?_ ?_)) <;> omega), ?_⟩ | fail)
    · rw [if_pos (by assumption)] at h1
      refine X1_placeOf H (Or.inl rfl) R hi ?_
      repeat' (first | (refine Rules.st H okX4_maid [] ?_; conv => whnf) | refine br_t (by first | decide | assumption) ?_ | refine br_f (by first | decide | assumption) ?_ | refine br_c (fun _ => ?_) (fun _ => ?_) | refine ⟨by decide, ?_⟩ | refine ⟨by first | assumption | (unfold vp_in; decide) | ((with_reducible (refine vp_in_nI ?_ ?_)) <;> omega), ?_⟩ | fail)
      exact h1 S ScX.rf
    · rw [if_neg (by assumption), if_pos (by assumption)] at h1
      refine X1_loadOf H (Or.inl rfl) R hi ?_
      repeat' (first | (refine Rules.st H okX4_maid [] ?_; conv => whnf) | refine br_t (by first | decide | assumption) ?_ | refine br_f (by first | decide | assumption) ?_ | refine br_c (fun _ => ?_) (fun _ => ?_) | refine ⟨by decide, ?_⟩ | refine ⟨by first | assumption | (unfold vp_in; decide) | ((with_reducible (refine vp_in_nI ?_ ?_)) <;> omega), ?_⟩ | fail)
      exact h1 S ScX.rf
    · rw [if_neg (by assumption), if_neg (by assumption), if_pos (by assumption)] at h1
      refine X1_clockOf H (Or.inl rfl) R hi ?_
      repeat' (first | (refine Rules.st H okX4_maid [] ?_; conv => whnf) | refine br_t (by first | decide | assumption) ?_ | refine br_f (by first | decide | assumption) ?_ | refine br_c (fun _ => ?_) (fun _ => ?_) | refine ⟨by decide, ?_⟩ | refine ⟨by first | assumption | (unfold vp_in; decide) | ((with_reducible (refine vp_in_nI ?_ ?_)) <;> omega), ?_⟩ | fail)
      exact h1 S ScX.rf
    · rw [if_neg (by assumption), if_neg (by assumption), if_neg (by assumption)] at h1
      refine X4_ref H ScX.rf (k := 2) (by omega) (by omega) (by decide) (fun S' hS' => ?_)
      repeat' (first | (refine Rules.st H okX4_maid [] ?_; conv => whnf) | refine br_t (by first | decide | assumption) ?_ | refine br_f (by first | decide | assumption) ?_ | refine br_c (fun _ => ?_) (fun _ => ?_) | refine ⟨by decide, ?_⟩ | refine ⟨by first | assumption | (unfold vp_in; decide) | ((with_reducible (refine vp_in_nI ?_ ?_)) <;> omega), ?_⟩ | fail)
      exact h1 S' hS'
  · rw [if_neg (okM_neg hno)] at h1
    repeat' (first | (refine Rules.st H okX4_maid [] ?_; conv => whnf) | refine br_t (by first | decide | assumption) ?_ | refine br_f (by first | decide | assumption) ?_ | refine br_c (fun _ => ?_) (fun _ => ?_) | refine ⟨by decide, ?_⟩ | refine ⟨by first | assumption | (unfold vp_in; decide) | ((with_reducible (refine vp_in_nI ?_ ?_)) <;> omega), ?_⟩ | fail)
    refine X4_ref H ScX.rf (k := 1) (by omega) (by omega) (by decide) (fun S' hS' => ?_)
    repeat' (first | (refine Rules.st H okX4_maid [] ?_; conv => whnf) | refine br_t (by first | decide | assumption) ?_ | refine br_f (by first | decide | assumption) ?_ | refine br_c (fun _ => ?_) (fun _ => ?_) | refine ⟨by decide, ?_⟩ | refine ⟨by first | assumption | (unfold vp_in; decide) | ((with_reducible (refine vp_in_nI ?_ ?_)) <;> omega), ?_⟩ | fail)
    exact h1 S' hS'
/-- of calls that change the corridor: the answer, and the corridor behind it -/
def AnsY (S : Mem) (a : Ans) (K' : Mem) (Q : Pst) : Prop := ∀ S', RepC 1 S' K' → ScY a.1 S S' → Q (some (.int a.2)) S'
set_option maxRecDepth 100000 in
theorem ScY.fr {S S' : Mem} (h : Fr 1 6 S S') : ScY 0 S S' := fun a j _ h2 => by
  rw [if_neg (fun z => z.2.2 rfl)]
  exact h a j (by omega)
set_option maxRecDepth 100000 in
theorem ScY.tr {k : Nat} {S S1 S2 : Mem} (h1 : ScY 0 S S1) (h2 : ScY k S1 S2) : ScY k S S2 := fun a j h3 h4 => by
  have e := h1 a j h3 h4
  rw [if_neg (fun z => z.2.2 rfl)] at e
  rw [h2 a j h3 h4, e]
def flipK (K : Mem) (f r : Nat) : Mem := up K 0 f (K 0 f ^^^ (1 <<< (nI r &&& 31)))
def F_flip (K : Mem) (n f : Nat) (r : Int32) : Ans × Mem := if okR n r then ((0, if bt (flipK K f (ix r) 0 f) (ix r) = 0 then 0 else 1), flipK K f (ix r)) else ((1, -1), K)
set_option maxRecDepth 100000 in
theorem X4_card (H : Rules C T) {S K : Mem} {n : Nat} (X : XK S K n) {r : Int32} {Q : Pst} (h1 : AnsY S (F_flip K n 2 r).1 (F_flip K n 2 r).2 Q) : C mX4_card [.ref 0, .int r] S Q := by
  obtain ⟨R, hn, hn8, hz⟩ := X
  unfold F_flip at h1
  refine Rules.go H (by decide) (Nat.le_of_ble_eq_true rfl) ?_
  repeat' (first | (refine Rules.st H okX4_card [] ?_; conv => whnf) | refine br_t (by first | decide | assumption) ?_ | refine br_f (by first | decide | assumption) ?_ | refine br_c (fun _ => ?_) (fun _ => ?_) | refine ⟨by decide, ?_⟩ | refine ⟨by first | assumption | (unfold vp_in; decide) | ((with_reducible (refine vp_in_nI ?_ ?_)) <;> omega), ?_⟩ | fail)
  refine X1_hasRoom H (Or.inl rfl) R hn hn8 (fun i hi e => ?_) (fun hno => ?_)
  · rw [if_pos (by rw [e]; exact okR_nI hn8 hi)] at h1
    subst e
    rw [show ix (nI i) = i from nIc (by omega)] at h1
    repeat' (first | (refine Rules.st H okX4_card [] ?_; conv => whnf) | refine br_t (by first | decide | assumption) ?_ | refine br_f (by first | decide | assumption) ?_ | refine br_c (fun _ => ?_) (fun _ => ?_) | refine ⟨by decide, ?_⟩ | refine ⟨by first | assumption | (unfold vp_in; decide) | ((with_reducible (refine vp_in_nI ?_ ?_)) <;> omega), ?_⟩ | fail)
    refine X1_changeCard H (Or.inl rfl) R (fun S1 R1 F1 => ?_)
    repeat' (first | (refine Rules.st H okX4_card [] ?_; conv => whnf) | refine br_t (by first | decide | assumption) ?_ | refine br_f (by first | decide | assumption) ?_ | refine br_c (fun _ => ?_) (fun _ => ?_) | refine ⟨by decide, ?_⟩ | refine ⟨by first | assumption | (unfold vp_in; decide) | ((with_reducible (refine vp_in_nI ?_ ?_)) <;> omega), ?_⟩ | fail)
    refine X1_hasCard H (Or.inl rfl) R1 (fun g => ?_) (fun g => ?_)
    · repeat' (first | (refine Rules.st H okX4_card [] ?_; conv => whnf) | refine br_t (by first | decide | assumption) ?_ | refine br_f (by first | decide | assumption) ?_ | refine br_c (fun _ => ?_) (fun _ => ?_) | refine ⟨by decide, ?_⟩ | refine ⟨by first | assumption | (unfold vp_in; decide) | ((with_reducible (refine vp_in_nI ?_ ?_)) <;> omega), ?_⟩ | fail)
      have h1 := h1 S1 R1 (ScY.fr F1)
      rw [if_neg (by exact g)] at h1
      exact h1
    · repeat' (first | (refine Rules.st H okX4_card [] ?_; conv => whnf) | refine br_t (by first | decide | assumption) ?_ | refine br_f (by first | decide | assumption) ?_ | refine br_c (fun _ => ?_) (fun _ => ?_) | refine ⟨by decide, ?_⟩ | refine ⟨by first | assumption | (unfold vp_in; decide) | ((with_reducible (refine vp_in_nI ?_ ?_)) <;> omega), ?_⟩ | fail)
      have h1 := h1 S1 R1 (ScY.fr F1)
      rw [if_pos (by exact g)] at h1
      exact h1
  · rw [if_neg (okR_neg hn8 hno)] at h1
    repeat' (first | (refine Rules.st H okX4_card [] ?_; conv => whnf) | refine br_t (by first | decide | assumption) ?_ | refine br_f (by first | decide | assumption) ?_ | refine br_c (fun _ => ?_) (fun _ => ?_) | refine ⟨by decide, ?_⟩ | refine ⟨by first | assumption | (unfold vp_in; decide) | ((with_reducible (refine vp_in_nI ?_ ?_)) <;> omega), ?_⟩ | fail)
    refine X4_ref H ScX.rf (k := 1) (by omega) (by omega) (by decide) (fun S' hS' => ?_)
    repeat' (first | (refine Rules.st H okX4_card [] ?_; conv => whnf) | refine br_t (by first | decide | assumption) ?_ | refine br_f (by first | decide | assumption) ?_ | refine br_c (fun _ => ?_) (fun _ => ?_) | refine ⟨by decide, ?_⟩ | refine ⟨by first | assumption | (unfold vp_in; decide) | ((with_reducible (refine vp_in_nI ?_ ?_)) <;> omega), ?_⟩ | fail)
    exact h1 S' (hS'.rep R (Or.inl rfl)) hS'.y
set_option maxRecDepth 100000 in
theorem X4_undo (H : Rules C T) {S K : Mem} {n : Nat} (X : XK S K n) {r : Int32} {Q : Pst} (h1 : AnsY S (F_flip K n 1 r).1 (F_flip K n 1 r).2 Q) : C mX4_undo [.ref 0, .int r] S Q := by
  obtain ⟨R, hn, hn8, hz⟩ := X
  unfold F_flip at h1
  refine Rules.go H (by decide) (Nat.le_of_ble_eq_true rfl) ?_
  repeat' (first | (refine Rules.st H okX4_undo [] ?_; conv => whnf) | refine br_t (by first | decide | assumption) ?_ | refine br_f (by first | decide | assumption) ?_ | refine br_c (fun _ => ?_) (fun _ => ?_) | refine ⟨by decide, ?_⟩ | refine ⟨by first | assumption | (unfold vp_in; decide) | ((with_reducible (refine vp_in_nI ?_ ?_)) <;> omega), ?_⟩ | fail)
  refine X1_hasRoom H (Or.inl rfl) R hn hn8 (fun i hi e => ?_) (fun hno => ?_)
  · rw [if_pos (by rw [e]; exact okR_nI hn8 hi)] at h1
    subst e
    rw [show ix (nI i) = i from nIc (by omega)] at h1
    repeat' (first | (refine Rules.st H okX4_undo [] ?_; conv => whnf) | refine br_t (by first | decide | assumption) ?_ | refine br_f (by first | decide | assumption) ?_ | refine br_c (fun _ => ?_) (fun _ => ?_) | refine ⟨by decide, ?_⟩ | refine ⟨by first | assumption | (unfold vp_in; decide) | ((with_reducible (refine vp_in_nI ?_ ?_)) <;> omega), ?_⟩ | fail)
    refine X1_changeDone H (Or.inl rfl) R (fun S1 R1 F1 => ?_)
    repeat' (first | (refine Rules.st H okX4_undo [] ?_; conv => whnf) | refine br_t (by first | decide | assumption) ?_ | refine br_f (by first | decide | assumption) ?_ | refine br_c (fun _ => ?_) (fun _ => ?_) | refine ⟨by decide, ?_⟩ | refine ⟨by first | assumption | (unfold vp_in; decide) | ((with_reducible (refine vp_in_nI ?_ ?_)) <;> omega), ?_⟩ | fail)
    refine X1_isDone H (Or.inl rfl) R1 (fun g => ?_) (fun g => ?_)
    · repeat' (first | (refine Rules.st H okX4_undo [] ?_; conv => whnf) | refine br_t (by first | decide | assumption) ?_ | refine br_f (by first | decide | assumption) ?_ | refine br_c (fun _ => ?_) (fun _ => ?_) | refine ⟨by decide, ?_⟩ | refine ⟨by first | assumption | (unfold vp_in; decide) | ((with_reducible (refine vp_in_nI ?_ ?_)) <;> omega), ?_⟩ | fail)
      have h1 := h1 S1 R1 (ScY.fr F1)
      rw [if_neg (by exact g)] at h1
      exact h1
    · repeat' (first | (refine Rules.st H okX4_undo [] ?_; conv => whnf) | refine br_t (by first | decide | assumption) ?_ | refine br_f (by first | decide | assumption) ?_ | refine br_c (fun _ => ?_) (fun _ => ?_) | refine ⟨by decide, ?_⟩ | refine ⟨by first | assumption | (unfold vp_in; decide) | ((with_reducible (refine vp_in_nI ?_ ?_)) <;> omega), ?_⟩ | fail)
      have h1 := h1 S1 R1 (ScY.fr F1)
      rw [if_pos (by exact g)] at h1
      exact h1
  · rw [if_neg (okR_neg hn8 hno)] at h1
    repeat' (first | (refine Rules.st H okX4_undo [] ?_; conv => whnf) | refine br_t (by first | decide | assumption) ?_ | refine br_f (by first | decide | assumption) ?_ | refine br_c (fun _ => ?_) (fun _ => ?_) | refine ⟨by decide, ?_⟩ | refine ⟨by first | assumption | (unfold vp_in; decide) | ((with_reducible (refine vp_in_nI ?_ ?_)) <;> omega), ?_⟩ | fail)
    refine X4_ref H ScX.rf (k := 1) (by omega) (by omega) (by decide) (fun S' hS' => ?_)
    repeat' (first | (refine Rules.st H okX4_undo [] ?_; conv => whnf) | refine br_t (by first | decide | assumption) ?_ | refine br_f (by first | decide | assumption) ?_ | refine br_c (fun _ => ?_) (fun _ => ?_) | refine ⟨by decide, ?_⟩ | refine ⟨by first | assumption | (unfold vp_in; decide) | ((with_reducible (refine vp_in_nI ?_ ?_)) <;> omega), ?_⟩ | fail)
    exact h1 S' (hS'.rep R (Or.inl rfl)) hS'.y
def F_turn (K : Mem) (n : Nat) (r kd f : Int32) : Ans × Mem :=
  if okR n r then if 0 ≤ kd ∧ kd < 7 then if f < 0 then ((4, -4), K) else if 9 < f then ((6, -6), K) else ((0, 10 * K 1 (ix r) + K 2 (ix r)), up (up K 1 (ix r) kd) 2 (ix r) f) else ((2, -2), K) else ((1, -1), K)
set_option maxRecDepth 100000 in
theorem X4_turn (H : Rules C T) {S K : Mem} {n : Nat} (X : XK S K n) {r kd f : Int32} {Q : Pst} (h1 : AnsY S (F_turn K n r kd f).1 (F_turn K n r kd f).2 Q) : C mX4_turn [.ref 0, .int r, .int kd, .int f] S Q := by
  obtain ⟨R, hn, hn8, hz⟩ := X
  unfold F_turn at h1
  refine Rules.go H (by decide) (Nat.le_of_ble_eq_true rfl) ?_
  repeat' (first | (refine Rules.st H okX4_turn [] ?_; conv => whnf) | refine br_t (by first | decide | assumption) ?_ | refine br_f (by first | decide | assumption) ?_ | refine br_c (fun _ => ?_) (fun _ => ?_) | refine ⟨by decide, ?_⟩ | refine ⟨by first | assumption | (unfold vp_in; decide) | ((with_reducible (refine vp_in_nI ?_ ?_)) <;> omega), ?_⟩ | fail)
  refine X1_hasRoom H (Or.inl rfl) R hn hn8 (fun i hi e => ?_) (fun hno => ?_)
  · rw [if_pos (by rw [e]; exact okR_nI hn8 hi)] at h1
    subst e
    rw [show ix (nI i) = i from nIc (by omega)] at h1
    have hi8 : i < 8 := by omega
    repeat' (first | (refine Rules.st H okX4_turn [] ?_; conv => whnf) | refine br_t (by first | decide | assumption) ?_ | refine br_f (by first | decide | assumption) ?_ | refine br_c (fun _ => ?_) (fun _ => ?_) | refine ⟨by decide, ?_⟩ | refine ⟨by first | assumption | (unfold vp_in; decide) | ((with_reducible (refine vp_in_nI ?_ ?_)) <;> omega), ?_⟩ | fail)
    refine X2_isKind H (fun g1 g2 => ?_) (fun g => ?_)
    · rw [if_pos ⟨g1, g2⟩] at h1
      repeat' (first | (refine Rules.st H okX4_turn [] ?_; conv => whnf) | refine br_t (by first | decide | assumption) ?_ | refine br_f (by first | decide | assumption) ?_ | refine br_c (fun _ => ?_) (fun _ => ?_) | refine ⟨by decide, ?_⟩ | refine ⟨by first | assumption | (unfold vp_in; decide) | ((with_reducible (refine vp_in_nI ?_ ?_)) <;> omega), ?_⟩ | fail)
      · rw [if_neg (Int32.not_lt.mpr (by assumption)), if_neg (Int32.not_lt.mpr (by assumption))] at h1
        refine X1_kindOf H (Or.inl rfl) R hi8 ?_
        repeat' (first | (refine Rules.st H okX4_turn [] ?_; conv => whnf) | refine br_t (by first | decide | assumption) ?_ | refine br_f (by first | decide | assumption) ?_ | refine br_c (fun _ => ?_) (fun _ => ?_) | refine ⟨by decide, ?_⟩ | refine ⟨by first | assumption | (unfold vp_in; decide) | ((with_reducible (refine vp_in_nI ?_ ?_)) <;> omega), ?_⟩ | fail)
        refine X1_figureOf H (Or.inl rfl) R hi8 ?_
        repeat' (first | (refine Rules.st H okX4_turn [] ?_; conv => whnf) | refine br_t (by first | decide | assumption) ?_ | refine br_f (by first | decide | assumption) ?_ | refine br_c (fun _ => ?_) (fun _ => ?_) | refine ⟨by decide, ?_⟩ | refine ⟨by first | assumption | (unfold vp_in; decide) | ((with_reducible (refine vp_in_nI ?_ ?_)) <;> omega), ?_⟩ | fail)
        refine X1_setKind H (Or.inl rfl) R hi8 (fun S1 R1 F1 => ?_)
        repeat' (first | (refine Rules.st H okX4_turn [] ?_; conv => whnf) | refine br_t (by first | decide | assumption) ?_ | refine br_f (by first | decide | assumption) ?_ | refine br_c (fun _ => ?_) (fun _ => ?_) | refine ⟨by decide, ?_⟩ | refine ⟨by first | assumption | (unfold vp_in; decide) | ((with_reducible (refine vp_in_nI ?_ ?_)) <;> omega), ?_⟩ | fail)
        refine X1_setFigure H (Or.inl rfl) R1 hi8 (fun S2 R2 F2 => ?_)
        repeat' (first | (refine Rules.st H okX4_turn [] ?_; conv => whnf) | refine br_t (by first | decide | assumption) ?_ | refine br_f (by first | decide | assumption) ?_ | refine br_c (fun _ => ?_) (fun _ => ?_) | refine ⟨by decide, ?_⟩ | refine ⟨by first | assumption | (unfold vp_in; decide) | ((with_reducible (refine vp_in_nI ?_ ?_)) <;> omega), ?_⟩ | fail)
        exact h1 S2 R2 (ScY.fr (F1.tr F2))
      · rw [if_neg (Int32.not_lt.mpr (by assumption)), if_pos (Int32.not_le.mp (by assumption))] at h1
        refine X4_ref H ScX.rf (k := 6) (by omega) (by omega) (by decide) (fun S' hS' => ?_)
        repeat' (first | (refine Rules.st H okX4_turn [] ?_; conv => whnf) | refine br_t (by first | decide | assumption) ?_ | refine br_f (by first | decide | assumption) ?_ | refine br_c (fun _ => ?_) (fun _ => ?_) | refine ⟨by decide, ?_⟩ | refine ⟨by first | assumption | (unfold vp_in; decide) | ((with_reducible (refine vp_in_nI ?_ ?_)) <;> omega), ?_⟩ | fail)
        exact h1 S' (hS'.rep R (Or.inl rfl)) hS'.y
      · rw [if_pos (Int32.not_le.mp (by assumption))] at h1
        refine X4_ref H ScX.rf (k := 4) (by omega) (by omega) (by decide) (fun S' hS' => ?_)
        repeat' (first | (refine Rules.st H okX4_turn [] ?_; conv => whnf) | refine br_t (by first | decide | assumption) ?_ | refine br_f (by first | decide | assumption) ?_ | refine br_c (fun _ => ?_) (fun _ => ?_) | refine ⟨by decide, ?_⟩ | refine ⟨by first | assumption | (unfold vp_in; decide) | ((with_reducible (refine vp_in_nI ?_ ?_)) <;> omega), ?_⟩ | fail)
        exact h1 S' (hS'.rep R (Or.inl rfl)) hS'.y
    · rw [if_neg g] at h1
      repeat' (first | (refine Rules.st H okX4_turn [] ?_; conv => whnf) | refine br_t (by first | decide | assumption) ?_ | refine br_f (by first | decide | assumption) ?_ | refine br_c (fun _ => ?_) (fun _ => ?_) | refine ⟨by decide, ?_⟩ | refine ⟨by first | assumption | (unfold vp_in; decide) | ((with_reducible (refine vp_in_nI ?_ ?_)) <;> omega), ?_⟩ | fail)
      refine X4_ref H ScX.rf (k := 2) (by omega) (by omega) (by decide) (fun S' hS' => ?_)
      repeat' (first | (refine Rules.st H okX4_turn [] ?_; conv => whnf) | refine br_t (by first | decide | assumption) ?_ | refine br_f (by first | decide | assumption) ?_ | refine br_c (fun _ => ?_) (fun _ => ?_) | refine ⟨by decide, ?_⟩ | refine ⟨by first | assumption | (unfold vp_in; decide) | ((with_reducible (refine vp_in_nI ?_ ?_)) <;> omega), ?_⟩ | fail)
      exact h1 S' (hS'.rep R (Or.inl rfl)) hS'.y
  · rw [if_neg (okR_neg hn8 hno)] at h1
    repeat' (first | (refine Rules.st H okX4_turn [] ?_; conv => whnf) | refine br_t (by first | decide | assumption) ?_ | refine br_f (by first | decide | assumption) ?_ | refine br_c (fun _ => ?_) (fun _ => ?_) | refine ⟨by decide, ?_⟩ | refine ⟨by first | assumption | (unfold vp_in; decide) | ((with_reducible (refine vp_in_nI ?_ ?_)) <;> omega), ?_⟩ | fail)
    refine X4_ref H ScX.rf (k := 1) (by omega) (by omega) (by decide) (fun S' hS' => ?_)
    repeat' (first | (refine Rules.st H okX4_turn [] ?_; conv => whnf) | refine br_t (by first | decide | assumption) ?_ | refine br_f (by first | decide | assumption) ?_ | refine br_c (fun _ => ?_) (fun _ => ?_) | refine ⟨by decide, ?_⟩ | refine ⟨by first | assumption | (unfold vp_in; decide) | ((with_reducible (refine vp_in_nI ?_ ?_)) <;> omega), ?_⟩ | fail)
    exact h1 S' (hS'.rep R (Or.inl rfl)) hS'.y
end X4
