section BASE
variable {C : Cst} {T : Nat → Pst → Nat → Lcs → List Value → Mem → Prop}
/-- a place where a walk halts -/
def Halt (P : Prop) : Prop := Unit → P
set_option maxRecDepth 100000 in
theorem Halt.mk {P : Prop} (h : P) : Halt P := fun _ => h
/-- one instruction, and then T again -/
def stepT (C : Cst) (cd : Nat → Option PO) (stops : List Nat) (Q : Pst) (T1 : Nat → Lcs → List Value → Mem → Prop) (pc : Nat) (L : Lcs) (st : List Value) (S : Mem) : Prop := exec1 C cd Q (fun pc' L' st' S' => stp pc' (Halt (T1 pc' L' st' S')) (T1 pc' L' st' S') stops) pc L st S
set_option maxRecDepth 100000 in
theorem stp_inv {pc : Nat} {A B : Prop} : ∀ {stops : List Nat}, stp pc A B stops → A ∨ B
  | [], h => Or.inr h
  | q :: r, h => by
    unfold stp at h
    cases hb : Nat.beq pc q with
    | true => rw [hb] at h; exact Or.inl h
    | false => rw [hb] at h; exact stp_inv (stops := r) h
set_option maxRecDepth 100000 in
theorem Rules.st (H : Rules C T) {M : Nat} {cd : Nat → Option PO} (hcd : chkAll M cd) (stops : List Nat) {Q : Pst} {pc : Nat} {L : Lcs} {st : List Value} {S : Mem} (h : stepT C cd stops Q (T M Q) pc L st S) : T M Q pc L st S := H.1 M cd hcd Q _ (fun _ _ _ _ q => (stp_inv q).elim (fun z => z ()) id) pc L st S h
set_option maxRecDepth 100000 in
theorem Rules.go (H : Rules C T) {M : Nat} (hM : M ∈ mks) {as : List Value} {S : Mem} {Q : Pst} (hn : (entL as).length ≤ mL M) (h : T M Q 0 (ent (mL M) as) [] S) : C M as S Q := H.2 M as S Q hM hn h
end BASE
set_option maxRecDepth 100000 in
theorem li0 : (0 : Int32) = nI 0 := rfl
set_option maxRecDepth 100000 in
theorem li1 : (1 : Int32) = nI 1 := rfl
set_option maxRecDepth 100000 in
theorem li2 : (2 : Int32) = nI 2 := rfl
set_option maxRecDepth 100000 in
theorem li3 : (3 : Int32) = nI 3 := rfl
set_option maxRecDepth 100000 in
theorem li4 : (4 : Int32) = nI 4 := rfl
set_option maxRecDepth 100000 in
theorem li5 : (5 : Int32) = nI 5 := rfl
set_option maxRecDepth 100000 in
theorem li6 : (6 : Int32) = nI 6 := rfl
set_option maxRecDepth 100000 in
theorem li7 : (7 : Int32) = nI 7 := rfl
set_option maxRecDepth 100000 in
theorem li8 : (8 : Int32) = nI 8 := rfl
set_option maxRecDepth 100000 in
theorem li9 : (9 : Int32) = nI 9 := rfl
set_option maxRecDepth 100000 in
theorem li10 : (10 : Int32) = nI 10 := rfl
set_option maxRecDepth 100000 in
theorem li11 : (11 : Int32) = nI 11 := rfl
set_option maxRecDepth 100000 in
theorem li12 : (12 : Int32) = nI 12 := rfl
set_option maxRecDepth 100000 in
theorem li13 : (13 : Int32) = nI 13 := rfl
set_option maxRecDepth 100000 in
theorem li14 : (14 : Int32) = nI 14 := rfl
set_option maxRecDepth 100000 in
theorem li15 : (15 : Int32) = nI 15 := rfl
set_option maxRecDepth 100000 in
theorem li16 : (16 : Int32) = nI 16 := rfl
set_option maxRecDepth 100000 in
theorem li17 : (17 : Int32) = nI 17 := rfl
set_option maxRecDepth 100000 in
theorem li18 : (18 : Int32) = nI 18 := rfl
set_option maxRecDepth 100000 in
theorem li19 : (19 : Int32) = nI 19 := rfl
set_option maxRecDepth 100000 in
theorem li20 : (20 : Int32) = nI 20 := rfl
set_option maxRecDepth 100000 in
theorem li60 : (60 : Int32) = nI 60 := rfl
set_option maxRecDepth 100000 in
theorem li96 : (96 : Int32) = nI 96 := rfl
set_option maxRecDepth 100000 in
theorem li99 : (99 : Int32) = nI 99 := rfl
set_option maxRecDepth 100000 in
theorem li255 : (255 : Int32) = nI 255 := rfl
set_option maxRecDepth 100000 in
theorem li999 : (999 : Int32) = nI 999 := rfl
set_option maxRecDepth 100000 in
theorem ofN (n : Nat) : Int32.ofNat n = nI n := rfl
set_option maxRecDepth 100000 in
theorem nIc {n : Nat} (h : n < 2 ^ 31) : (nI n).toNatClampNeg = n := nI_clamp h

set_option maxRecDepth 100000 in
theorem vp_dec (x : Int32) {n : Nat} (hn : n < 2 ^ 31) : (∃ j, j < n ∧ x = nI j) ∨ ∀ j, j < n → ¬ x = nI j := by
  by_cases h : ∃ j, j < n ∧ x = nI j
  · exact Or.inl h
  · exact Or.inr fun j hj hx => h ⟨j, hj, hx⟩
set_option maxRecDepth 100000 in
theorem nI_bound {x : Int32} {n : Nat} (hn : n < 2 ^ 31) (h0 : ¬ x < 0) (h1 : ¬ nI n ≤ x) : ∃ j, j < n ∧ x = nI j := by
  obtain ⟨j, hj, rfl⟩ := nI_of h0
  exact ⟨j, by rw [nI_leI hn hj] at h1; omega, rfl⟩
set_option maxRecDepth 100000 in
theorem nI_bound2 {x : Int32} {n : Nat} (hn : n < 2 ^ 31) (h0 : ¬ x < 0) (h1 : x < nI n) : ∃ j, j < n ∧ x = nI j := by
  obtain ⟨j, hj, rfl⟩ := nI_of h0
  exact ⟨j, by rw [nI_ltI hj hn] at h1; omega, rfl⟩
/-! ## the corridors of the class -/
def isC (c : Nat) : Prop := c = 1 ∨ c = 7 ∨ c = 13
/-- the places of a corridor's own words: 0 its numbers (rooms, done, cards, staying, downs), 1 kinds, 2 figures, 3 at, 4 loads, 5 clocks -/
def inr (o j : Nat) : Prop := (o = 0 ∧ j < 5) ∨ (o = 1 ∧ j < 8) ∨ (o = 2 ∧ j < 8) ∨ (o = 3 ∧ j < 2) ∨ (o = 4 ∧ j < 2) ∨ (o = 5 ∧ j < 2)
/-- the corridor at cell c is K -/
def RepC (c : Nat) (S K : Mem) : Prop := ∀ o j, inr o j → S (c + o) j = K o j
/-- nothing but the cells a to b has changed -/
def Fr (a b : Nat) (S S' : Mem) : Prop := ∀ k j, k < a ∨ b < k → S' k j = S k j
set_option maxRecDepth 100000 in
theorem Fr.rf {a b : Nat} {S : Mem} : Fr a b S S := fun _ _ _ => rfl
set_option maxRecDepth 100000 in
theorem Fr.tr {a b : Nat} {S S1 S2 : Mem} (h1 : Fr a b S S1) (h2 : Fr a b S1 S2) : Fr a b S S2 := fun k j h => (h2 k j h).trans (h1 k j h)
set_option maxRecDepth 100000 in
theorem Fr.put {a b k j : Nat} {S : Mem} {v : Int32} (h1 : a ≤ k) (h2 : k ≤ b) : Fr a b S (up S k j v) := fun k' j' h => by
  unfold up
  rw [if_neg]
  intro q
  omega
set_option maxRecDepth 100000 in
theorem up_at {S : Mem} {k j : Nat} {v : Int32} : up S k j v k j = v := by simp [up]
set_option maxRecDepth 100000 in
theorem up_k {S : Mem} {k j k' j' : Nat} {v : Int32} (h : k' ≠ k) : up S k j v k' j' = S k' j' := by simp [up, h]
set_option maxRecDepth 100000 in
theorem up_j {S : Mem} {k j k' j' : Nat} {v : Int32} (h : j' ≠ j) : up S k j v k' j' = S k' j' := by simp [up, h]
set_option maxRecDepth 100000 in
theorem RepC.put {c o j : Nat} {S K : Mem} {v : Int32} (h : RepC c S K) : RepC c (up S (c + o) j v) (up K o j v) := by
  intro o' j' hi
  have := h o' j' hi
  show (if c + o' = c + o ∧ j' = j then v else S (c + o') j') = (if o' = o ∧ j' = j then v else K o' j')
  by_cases q : o' = o ∧ j' = j
  · rw [if_pos q, if_pos ⟨by omega, q.2⟩]
  · rw [if_neg q, if_neg (fun z => q ⟨by omega, z.2⟩)]
    exact this
set_option maxRecDepth 100000 in
theorem RepC.fr {c a b : Nat} {S S' K : Mem} (h : RepC c S K) (hf : Fr a b S S') (hc : c + 5 < a ∨ b < c) : RepC c S' K := by
  intro o j hi
  rw [hf (c + o) j (by unfold inr at hi; omega)]
  exact h o j hi
section CORR
variable {C : Cst} {T : Nat → Pst → Nat → Lcs → List Value → Mem → Prop}
set_option maxRecDepth 100000 in
theorem X1_rooms (H : Rules C T) {c : Nat} (hc : isC c) {S K : Mem} (R : RepC c S K) {Q : Pst} (h1 : Q (some (.int (K 0 0))) S) : C mX1_rooms [.ref c] S Q := by
  rw [← R 0 0 (by simp [inr])] at h1
  rcases hc with rfl | rfl | rfl <;>
  · refine Rules.go H (by decide) (Nat.le_of_ble_eq_true rfl) ?_
    repeat' (first | (refine Rules.st H okX1_rooms [] ?_; conv => whnf) | refine br_t (by first | decide | assumption) ?_ | refine br_f (by first | decide | assumption) ?_ | refine br_c (fun _ => ?_) (fun _ => ?_) | refine ⟨by decide, ?_⟩ | refine ⟨by first | assumption | (unfold vp_in; decide) | ((with_reducible (refine vp_in_nI ?_ ?_)) <;> omega), ?_⟩ | fail)
    exact h1
set_option maxRecDepth 100000 in
theorem X1_hasRoom (H : Rules C T) {c : Nat} (hc : isC c) {S K : Mem} (R : RepC c S K) {n : Nat} (hn : K 0 0 = nI n) (hn8 : n ≤ 8) {x : Int32} {Q : Pst} (h1 : ∀ r, r < n → x = nI r → Q (some (.int 1)) S) (h0 : (∀ r, r < n → ¬ x = nI r) → Q (some (.int 0)) S) : C mX1_hasRoom [.ref c, .int x] S Q := by
  rw [← R 0 0 (by simp [inr])] at hn
  have key1 : ¬ x < 0 → x < S (c + 0) 0 → Q (some (.int 1)) S := fun g1 g2 => by
    obtain ⟨r, hr, e⟩ := nI_bound2 (by omega) g1 (hn ▸ g2)
    exact h1 r hr e
  have key0 : (x < 0 ∨ ¬ x < S (c + 0) 0) → Q (some (.int 0)) S := fun g => h0 fun r hr e => by
    rw [e, hn] at g
    exact g.elim (nI_pos (by omega)) (fun z => z (nI_lt hr (by omega)))
  have key8 : ¬ x < 0 → x < S (c + 0) 0 → ¬ x < 8 → False := fun g1 g2 g3 => by
    obtain ⟨r, hr, e⟩ := nI_bound2 (by omega) g1 (hn ▸ g2)
    rw [e] at g3
    revert g3
    simp (disch := omega) only [li0, li1, li2, li3, li4, li5, li6, li7, li8, li9, li10, li11, li12, li13, li14, li15, li16, li17, li18, li19, li20, li60, li96, li99, li255, li999, nI_leI, nI_ltI, nI_eq, nI_1, nI_add]
    omega
  rcases hc with rfl | rfl | rfl <;>
  · refine Rules.go H (by decide) (Nat.le_of_ble_eq_true rfl) ?_
    repeat' (first | (refine Rules.st H okX1_hasRoom [] ?_; conv => whnf) | refine br_t (by first | decide | assumption) ?_ | refine br_f (by first | decide | assumption) ?_ | refine br_c (fun _ => ?_) (fun _ => ?_) | refine ⟨by decide, ?_⟩ | refine ⟨by first | assumption | (unfold vp_in; decide) | ((with_reducible (refine vp_in_nI ?_ ?_)) <;> omega), ?_⟩ | fail)
    · exact key0 (Or.inl ‹_›)
    · exact key0 (Or.inr (Int32.not_lt.mpr ‹_›))
    · exact (key8 ‹_› (Int32.not_le.mp ‹_›) (Int32.not_lt.mpr ‹_›)).elim
    · exact key1 ‹_› (Int32.not_le.mp ‹_›)
end CORR
/-! ## kinds: what both sides say alike -/
def outB (k f t : Int32) : Bool := if k = 1 ∨ k = 5 then decide (10 * f ≤ t) else if k = 3 then decide (10 * f ≤ t) && decide (irm t 2 = 0) else if k = 2 ∨ k = 4 then decide (irm (t + 20 - f) 20 < 10) else if k = 6 then true else decide (f ≤ irm t 20)
def workI (k f : Int32) : Int32 := if k = 1 ∨ k = 3 then 10 else if k = 4 then 7 + f else if k = 5 then 10 + f / 2 else if k = 6 then 3 else 7
def linenI (k : Int32) : Int32 := if k = 1 ∨ k = 3 ∨ k = 4 then 2 else if k = 5 then 3 else if k = 6 then 0 else 1
def tipI (k f : Int32) : Int32 := if k = 2 then 0 else if k = 3 then 2 * f else if k = 4 then 3 else if k = 5 then f + 1 else f
def ofL (c : Int32) : Int32 := if c = 114 then 0 else if c = 108 then 1 else if c = 115 then 2 else if c = 97 then 3 else if c = 98 then 4 else if c = 112 then 5 else if c = 117 then 6 else -1
section KINDS
variable {C : Cst} {T : Nat → Pst → Nat → Lcs → List Value → Mem → Prop}
set_option maxRecDepth 100000 in
theorem X2_isKind (H : Rules C T) {k : Int32} {S : Mem} {Q : Pst} (h1 : 0 ≤ k → k < 7 → Q (some (.int 1)) S) (h0 : ¬ (0 ≤ k ∧ k < 7) → Q (some (.int 0)) S) : C mX2_isKind [.int k] S Q := by
  refine Rules.go H (by decide) (Nat.le_of_ble_eq_true rfl) ?_
  repeat' (first | (refine Rules.st H okX2_isKind [] ?_; conv => whnf) | refine br_t (by first | decide | assumption) ?_ | refine br_f (by first | decide | assumption) ?_ | refine br_c (fun _ => ?_) (fun _ => ?_) | refine ⟨by decide, ?_⟩ | refine ⟨by first | assumption | (unfold vp_in; decide) | ((with_reducible (refine vp_in_nI ?_ ?_)) <;> omega), ?_⟩ | fail)
  · exact h0 (fun q => absurd q.1 (Int32.not_le.mpr ‹_›))
  · exact h0 (fun q => absurd q.2 (Int32.not_lt.mpr ‹_›))
  · exact h1 (Int32.not_lt.mp ‹_›) (Int32.not_le.mp ‹_›)
set_option maxRecDepth 100000 in
theorem X2_isUnderLeft (H : Rules C T) {k : Int32} {S : Mem} {Q : Pst} (h1 : (k = 1 ∨ k = 3 ∨ k = 5) → Q (some (.int 1)) S) (h0 : ¬ (k = 1 ∨ k = 3 ∨ k = 5) → Q (some (.int 0)) S) : C mX2_isUnderLeft [.int k] S Q := by
  refine Rules.go H (by decide) (Nat.le_of_ble_eq_true rfl) ?_
  repeat' (first | (refine Rules.st H okX2_isUnderLeft [] ?_; conv => whnf) | refine br_t (by first | decide | assumption) ?_ | refine br_f (by first | decide | assumption) ?_ | refine br_c (fun _ => ?_) (fun _ => ?_) | refine ⟨by decide, ?_⟩ | refine ⟨by first | assumption | (unfold vp_in; decide) | ((with_reducible (refine vp_in_nI ?_ ?_)) <;> omega), ?_⟩ | fail)
  all_goals first
    | (refine h1 ?_; simp [*]; done)
    | (refine h0 ?_; simp [*]; done)
set_option maxRecDepth 100000 in
theorem X2_ofLetter (H : Rules C T) {k : Int32} {S : Mem} {Q : Pst} (h : Q (some (.int (ofL k))) S) : C mX2_ofLetter [.int k] S Q := by
  refine Rules.go H (by decide) (Nat.le_of_ble_eq_true rfl) ?_
  repeat' (first | (refine Rules.st H okX2_ofLetter [] ?_; conv => whnf) | refine br_t (by first | decide | assumption) ?_ | refine br_f (by first | decide | assumption) ?_ | refine br_c (fun _ => ?_) (fun _ => ?_) | refine ⟨by decide, ?_⟩ | refine ⟨by first | assumption | (unfold vp_in; decide) | ((with_reducible (refine vp_in_nI ?_ ?_)) <;> omega), ?_⟩ | fail)
  all_goals simpa [ofL, *] using h
set_option maxRecDepth 100000 in
theorem X2_isOut (H : Rules C T) {k f t : Int32} {S : Mem} {Q : Pst} (h1 : outB k f t = true → Q (some (.int 1)) S) (h0 : outB k f t = false → Q (some (.int 0)) S) : C mX2_isOut [.int k, .int f, .int t] S Q := by
  refine Rules.go H (by decide) (Nat.le_of_ble_eq_true rfl) ?_
  repeat' (first | (refine Rules.st H okX2_isOut [] ?_; conv => whnf) | refine br_t (by first | decide | assumption) ?_ | refine br_f (by first | decide | assumption) ?_ | refine br_c (fun _ => ?_) (fun _ => ?_) | refine ⟨by decide, ?_⟩ | refine ⟨by first | assumption | (unfold vp_in; decide) | ((with_reducible (refine vp_in_nI ?_ ?_)) <;> omega), ?_⟩ | fail)
  all_goals (try simp only [Int32.not_lt, Int32.not_le] at *)
  all_goals first
    | (refine h1 ?_; simp [outB, *]; done)
    | (refine h0 ?_; simp [outB, *]; done)
    | (refine h0 ?_; simp only [outB]; simp [*]; intro z; exact absurd z (Int32.not_le.mpr ‹_›))
    | exact h0 (by simp only [outB]; simp [*]; intro z; exact absurd z (Int32.not_le.mpr ‹_›))
set_option maxRecDepth 100000 in
theorem X2_work (H : Rules C T) {k f : Int32} {S : Mem} {Q : Pst} (h : Q (some (.int (workI k f))) S) : C mX2_work [.int k, .int f] S Q := by
  refine Rules.go H (by decide) (Nat.le_of_ble_eq_true rfl) ?_
  repeat' (first | (refine Rules.st H okX2_work [] ?_; conv => whnf) | refine br_t (by first | decide | assumption) ?_ | refine br_f (by first | decide | assumption) ?_ | refine br_c (fun _ => ?_) (fun _ => ?_) | refine ⟨by decide, ?_⟩ | refine ⟨by first | assumption | (unfold vp_in; decide) | ((with_reducible (refine vp_in_nI ?_ ?_)) <;> omega), ?_⟩ | fail)
  all_goals simpa [workI, *] using h
set_option maxRecDepth 100000 in
theorem X2_linen (H : Rules C T) {k : Int32} {S : Mem} {Q : Pst} (h : Q (some (.int (linenI k))) S) : C mX2_linen [.int k] S Q := by
  refine Rules.go H (by decide) (Nat.le_of_ble_eq_true rfl) ?_
  repeat' (first | (refine Rules.st H okX2_linen [] ?_; conv => whnf) | refine br_t (by first | decide | assumption) ?_ | refine br_f (by first | decide | assumption) ?_ | refine br_c (fun _ => ?_) (fun _ => ?_) | refine ⟨by decide, ?_⟩ | refine ⟨by first | assumption | (unfold vp_in; decide) | ((with_reducible (refine vp_in_nI ?_ ?_)) <;> omega), ?_⟩ | fail)
  all_goals simpa [linenI, *] using h
set_option maxRecDepth 100000 in
theorem X2_tip (H : Rules C T) {k f : Int32} {S : Mem} {Q : Pst} (h : Q (some (.int (tipI k f))) S) : C mX2_tip [.int k, .int f] S Q := by
  refine Rules.go H (by decide) (Nat.le_of_ble_eq_true rfl) ?_
  repeat' (first | (refine Rules.st H okX2_tip [] ?_; conv => whnf) | refine br_t (by first | decide | assumption) ?_ | refine br_f (by first | decide | assumption) ?_ | refine br_c (fun _ => ?_) (fun _ => ?_) | refine ⟨by decide, ?_⟩ | refine ⟨by first | assumption | (unfold vp_in; decide) | ((with_reducible (refine vp_in_nI ?_ ?_)) <;> omega), ?_⟩ | fail)
  all_goals simpa [tipI, *] using h
end KINDS
section CORR2
variable {C : Cst} {T : Nat → Pst → Nat → Lcs → List Value → Mem → Prop}
set_option maxRecDepth 100000 in
theorem X1_doneBits (H : Rules C T) {c : Nat} (hc : isC c) {S K : Mem} (R : RepC c S K) {Q : Pst} (h1 : Q (some (.int (K 0 1))) S) : C mX1_doneBits [.ref c] S Q := by
  rw [← R 0 1 (by simp [inr])] at h1
  rcases hc with rfl | rfl | rfl <;>
  · refine Rules.go H (by decide) (Nat.le_of_ble_eq_true rfl) ?_
    repeat' (first | (refine Rules.st H okX1_doneBits [] ?_; conv => whnf) | refine br_t (by first | decide | assumption) ?_ | refine br_f (by first | decide | assumption) ?_ | refine br_c (fun _ => ?_) (fun _ => ?_) | refine ⟨by decide, ?_⟩ | refine ⟨by first | assumption | (unfold vp_in; decide) | ((with_reducible (refine vp_in_nI ?_ ?_)) <;> omega), ?_⟩ | fail)
    exact h1
set_option maxRecDepth 100000 in
theorem X1_cardBits (H : Rules C T) {c : Nat} (hc : isC c) {S K : Mem} (R : RepC c S K) {Q : Pst} (h1 : Q (some (.int (K 0 2))) S) : C mX1_cardBits [.ref c] S Q := by
  rw [← R 0 2 (by simp [inr])] at h1
  rcases hc with rfl | rfl | rfl <;>
  · refine Rules.go H (by decide) (Nat.le_of_ble_eq_true rfl) ?_
    repeat' (first | (refine Rules.st H okX1_cardBits [] ?_; conv => whnf) | refine br_t (by first | decide | assumption) ?_ | refine br_f (by first | decide | assumption) ?_ | refine br_c (fun _ => ?_) (fun _ => ?_) | refine ⟨by decide, ?_⟩ | refine ⟨by first | assumption | (unfold vp_in; decide) | ((with_reducible (refine vp_in_nI ?_ ?_)) <;> omega), ?_⟩ | fail)
    exact h1
set_option maxRecDepth 100000 in
theorem X1_timesDown (H : Rules C T) {c : Nat} (hc : isC c) {S K : Mem} (R : RepC c S K) {Q : Pst} (h1 : Q (some (.int (K 0 4))) S) : C mX1_timesDown [.ref c] S Q := by
  rw [← R 0 4 (by simp [inr])] at h1
  rcases hc with rfl | rfl | rfl <;>
  · refine Rules.go H (by decide) (Nat.le_of_ble_eq_true rfl) ?_
    repeat' (first | (refine Rules.st H okX1_timesDown [] ?_; conv => whnf) | refine br_t (by first | decide | assumption) ?_ | refine br_f (by first | decide | assumption) ?_ | refine br_c (fun _ => ?_) (fun _ => ?_) | refine ⟨by decide, ?_⟩ | refine ⟨by first | assumption | (unfold vp_in; decide) | ((with_reducible (refine vp_in_nI ?_ ?_)) <;> omega), ?_⟩ | fail)
    exact h1
set_option maxRecDepth 100000 in
theorem X1_kindOf (H : Rules C T) {c : Nat} (hc : isC c) {S K : Mem} (R : RepC c S K) {r : Nat} (hr : r < 8) {Q : Pst} (h1 : Q (some (.int (K 1 r))) S) : C mX1_kindOf [.ref c, .int (nI r)] S Q := by
  rw [← R 1 r (by simp [inr]; omega)] at h1
  rcases hc with rfl | rfl | rfl <;>
  · refine Rules.go H (by decide) (Nat.le_of_ble_eq_true rfl) ?_
    repeat' (first | (refine Rules.st H okX1_kindOf [] ?_; conv => whnf) | refine br_t (by first | decide | assumption) ?_ | refine br_f (by first | decide | assumption) ?_ | refine br_c (fun _ => ?_) (fun _ => ?_) | refine ⟨by decide, ?_⟩ | refine ⟨by first | assumption | (unfold vp_in; decide) | ((with_reducible (refine vp_in_nI ?_ ?_)) <;> omega), ?_⟩ | fail)
    all_goals (try (exfalso; (simp (disch := omega) only [li0, li1, li2, li3, li4, li5, li6, li7, li8, li9, li10, li11, li12, li13, li14, li15, li16, li17, li18, li19, li20, li60, li96, li99, li255, li999, ofN, nI_leI, nI_ltI, nI_eq, nI_1, nI_add] at *); first | done | omega))
    rw [nIc (by omega)]
    exact h1
set_option maxRecDepth 100000 in
theorem X1_figureOf (H : Rules C T) {c : Nat} (hc : isC c) {S K : Mem} (R : RepC c S K) {r : Nat} (hr : r < 8) {Q : Pst} (h1 : Q (some (.int (K 2 r))) S) : C mX1_figureOf [.ref c, .int (nI r)] S Q := by
  rw [← R 2 r (by simp [inr]; omega)] at h1
  rcases hc with rfl | rfl | rfl <;>
  · refine Rules.go H (by decide) (Nat.le_of_ble_eq_true rfl) ?_
    repeat' (first | (refine Rules.st H okX1_figureOf [] ?_; conv => whnf) | refine br_t (by first | decide | assumption) ?_ | refine br_f (by first | decide | assumption) ?_ | refine br_c (fun _ => ?_) (fun _ => ?_) | refine ⟨by decide, ?_⟩ | refine ⟨by first | assumption | (unfold vp_in; decide) | ((with_reducible (refine vp_in_nI ?_ ?_)) <;> omega), ?_⟩ | fail)
    all_goals (try (exfalso; (simp (disch := omega) only [li0, li1, li2, li3, li4, li5, li6, li7, li8, li9, li10, li11, li12, li13, li14, li15, li16, li17, li18, li19, li20, li60, li96, li99, li255, li999, ofN, nI_leI, nI_ltI, nI_eq, nI_1, nI_add] at *); first | done | omega))
    rw [nIc (by omega)]
    exact h1
set_option maxRecDepth 100000 in
theorem X1_placeOf (H : Rules C T) {c : Nat} (hc : isC c) {S K : Mem} (R : RepC c S K) {r : Nat} (hr : r < 2) {Q : Pst} (h1 : Q (some (.int (K 3 r))) S) : C mX1_placeOf [.ref c, .int (nI r)] S Q := by
  rw [← R 3 r (by simp [inr]; omega)] at h1
  rcases hc with rfl | rfl | rfl <;>
  · refine Rules.go H (by decide) (Nat.le_of_ble_eq_true rfl) ?_
    repeat' (first | (refine Rules.st H okX1_placeOf [] ?_; conv => whnf) | refine br_t (by first | decide | assumption) ?_ | refine br_f (by first | decide | assumption) ?_ | refine br_c (fun _ => ?_) (fun _ => ?_) | refine ⟨by decide, ?_⟩ | refine ⟨by first | assumption | (unfold vp_in; decide) | ((with_reducible (refine vp_in_nI ?_ ?_)) <;> omega), ?_⟩ | fail)
    all_goals (try (exfalso; (simp (disch := omega) only [li0, li1, li2, li3, li4, li5, li6, li7, li8, li9, li10, li11, li12, li13, li14, li15, li16, li17, li18, li19, li20, li60, li96, li99, li255, li999, ofN, nI_leI, nI_ltI, nI_eq, nI_1, nI_add] at *); first | done | omega))
    rw [nIc (by omega)]
    exact h1
set_option maxRecDepth 100000 in
theorem X1_loadOf (H : Rules C T) {c : Nat} (hc : isC c) {S K : Mem} (R : RepC c S K) {r : Nat} (hr : r < 2) {Q : Pst} (h1 : Q (some (.int (K 4 r))) S) : C mX1_loadOf [.ref c, .int (nI r)] S Q := by
  rw [← R 4 r (by simp [inr]; omega)] at h1
  rcases hc with rfl | rfl | rfl <;>
  · refine Rules.go H (by decide) (Nat.le_of_ble_eq_true rfl) ?_
    repeat' (first | (refine Rules.st H okX1_loadOf [] ?_; conv => whnf) | refine br_t (by first | decide | assumption) ?_ | refine br_f (by first | decide | assumption) ?_ | refine br_c (fun _ => ?_) (fun _ => ?_) | refine ⟨by decide, ?_⟩ | refine ⟨by first | assumption | (unfold vp_in; decide) | ((with_reducible (refine vp_in_nI ?_ ?_)) <;> omega), ?_⟩ | fail)
    all_goals (try (exfalso; (simp (disch := omega) only [li0, li1, li2, li3, li4, li5, li6, li7, li8, li9, li10, li11, li12, li13, li14, li15, li16, li17, li18, li19, li20, li60, li96, li99, li255, li999, ofN, nI_leI, nI_ltI, nI_eq, nI_1, nI_add] at *); first | done | omega))
    rw [nIc (by omega)]
    exact h1
set_option maxRecDepth 100000 in
theorem X1_clockOf (H : Rules C T) {c : Nat} (hc : isC c) {S K : Mem} (R : RepC c S K) {r : Nat} (hr : r < 2) {Q : Pst} (h1 : Q (some (.int (K 5 r))) S) : C mX1_clockOf [.ref c, .int (nI r)] S Q := by
  rw [← R 5 r (by simp [inr]; omega)] at h1
  rcases hc with rfl | rfl | rfl <;>
  · refine Rules.go H (by decide) (Nat.le_of_ble_eq_true rfl) ?_
    repeat' (first | (refine Rules.st H okX1_clockOf [] ?_; conv => whnf) | refine br_t (by first | decide | assumption) ?_ | refine br_f (by first | decide | assumption) ?_ | refine br_c (fun _ => ?_) (fun _ => ?_) | refine ⟨by decide, ?_⟩ | refine ⟨by first | assumption | (unfold vp_in; decide) | ((with_reducible (refine vp_in_nI ?_ ?_)) <;> omega), ?_⟩ | fail)
    all_goals (try (exfalso; (simp (disch := omega) only [li0, li1, li2, li3, li4, li5, li6, li7, li8, li9, li10, li11, li12, li13, li14, li15, li16, li17, li18, li19, li20, li60, li96, li99, li255, li999, ofN, nI_leI, nI_ltI, nI_eq, nI_1, nI_add] at *); first | done | omega))
    rw [nIc (by omega)]
    exact h1
set_option maxRecDepth 100000 in
theorem X1_setKind (H : Rules C T) {c : Nat} (hc : isC c) {S K : Mem} (R : RepC c S K) {r : Nat} (hr : r < 8) {x : Int32} {Q : Pst} (h1 : ∀ S', RepC c S' (up K 1 r x) → Fr c (c + 5) S S' → Q none S') : C mX1_setKind [.ref c, .int (nI r), .int x] S Q := by
  have h1 := h1 (up S (c + 1) r x) R.put (Fr.put (by omega) (by omega))
  rcases hc with rfl | rfl | rfl <;>
  · refine Rules.go H (by decide) (Nat.le_of_ble_eq_true rfl) ?_
    repeat' (first | (refine Rules.st H okX1_setKind [] ?_; conv => whnf) | refine br_t (by first | decide | assumption) ?_ | refine br_f (by first | decide | assumption) ?_ | refine br_c (fun _ => ?_) (fun _ => ?_) | refine ⟨by decide, ?_⟩ | refine ⟨by first | assumption | (unfold vp_in; decide) | ((with_reducible (refine vp_in_nI ?_ ?_)) <;> omega), ?_⟩ | fail)
    all_goals (try (exfalso; (simp (disch := omega) only [li0, li1, li2, li3, li4, li5, li6, li7, li8, li9, li10, li11, li12, li13, li14, li15, li16, li17, li18, li19, li20, li60, li96, li99, li255, li999, ofN, nI_leI, nI_ltI, nI_eq, nI_1, nI_add] at *); first | done | omega))
    rw [nIc (by omega)]
    exact h1
set_option maxRecDepth 100000 in
theorem X1_setFigure (H : Rules C T) {c : Nat} (hc : isC c) {S K : Mem} (R : RepC c S K) {r : Nat} (hr : r < 8) {x : Int32} {Q : Pst} (h1 : ∀ S', RepC c S' (up K 2 r x) → Fr c (c + 5) S S' → Q none S') : C mX1_setFigure [.ref c, .int (nI r), .int x] S Q := by
  have h1 := h1 (up S (c + 2) r x) R.put (Fr.put (by omega) (by omega))
  rcases hc with rfl | rfl | rfl <;>
  · refine Rules.go H (by decide) (Nat.le_of_ble_eq_true rfl) ?_
    repeat' (first | (refine Rules.st H okX1_setFigure [] ?_; conv => whnf) | refine br_t (by first | decide | assumption) ?_ | refine br_f (by first | decide | assumption) ?_ | refine br_c (fun _ => ?_) (fun _ => ?_) | refine ⟨by decide, ?_⟩ | refine ⟨by first | assumption | (unfold vp_in; decide) | ((with_reducible (refine vp_in_nI ?_ ?_)) <;> omega), ?_⟩ | fail)
    all_goals (try (exfalso; (simp (disch := omega) only [li0, li1, li2, li3, li4, li5, li6, li7, li8, li9, li10, li11, li12, li13, li14, li15, li16, li17, li18, li19, li20, li60, li96, li99, li255, li999, ofN, nI_leI, nI_ltI, nI_eq, nI_1, nI_add] at *); first | done | omega))
    rw [nIc (by omega)]
    exact h1
set_option maxRecDepth 100000 in
theorem X1_setPlace (H : Rules C T) {c : Nat} (hc : isC c) {S K : Mem} (R : RepC c S K) {r : Nat} (hr : r < 2) {x : Int32} {Q : Pst} (h1 : ∀ S', RepC c S' (up K 3 r x) → Fr c (c + 5) S S' → Q none S') : C mX1_setPlace [.ref c, .int (nI r), .int x] S Q := by
  have h1 := h1 (up S (c + 3) r x) R.put (Fr.put (by omega) (by omega))
  rcases hc with rfl | rfl | rfl <;>
  · refine Rules.go H (by decide) (Nat.le_of_ble_eq_true rfl) ?_
    repeat' (first | (refine Rules.st H okX1_setPlace [] ?_; conv => whnf) | refine br_t (by first | decide | assumption) ?_ | refine br_f (by first | decide | assumption) ?_ | refine br_c (fun _ => ?_) (fun _ => ?_) | refine ⟨by decide, ?_⟩ | refine ⟨by first | assumption | (unfold vp_in; decide) | ((with_reducible (refine vp_in_nI ?_ ?_)) <;> omega), ?_⟩ | fail)
    all_goals (try (exfalso; (simp (disch := omega) only [li0, li1, li2, li3, li4, li5, li6, li7, li8, li9, li10, li11, li12, li13, li14, li15, li16, li17, li18, li19, li20, li60, li96, li99, li255, li999, ofN, nI_leI, nI_ltI, nI_eq, nI_1, nI_add] at *); first | done | omega))
    rw [nIc (by omega)]
    exact h1
set_option maxRecDepth 100000 in
theorem X1_setLoad (H : Rules C T) {c : Nat} (hc : isC c) {S K : Mem} (R : RepC c S K) {r : Nat} (hr : r < 2) {x : Int32} {Q : Pst} (h1 : ∀ S', RepC c S' (up K 4 r x) → Fr c (c + 5) S S' → Q none S') : C mX1_setLoad [.ref c, .int (nI r), .int x] S Q := by
  have h1 := h1 (up S (c + 4) r x) R.put (Fr.put (by omega) (by omega))
  rcases hc with rfl | rfl | rfl <;>
  · refine Rules.go H (by decide) (Nat.le_of_ble_eq_true rfl) ?_
    repeat' (first | (refine Rules.st H okX1_setLoad [] ?_; conv => whnf) | refine br_t (by first | decide | assumption) ?_ | refine br_f (by first | decide | assumption) ?_ | refine br_c (fun _ => ?_) (fun _ => ?_) | refine ⟨by decide, ?_⟩ | refine ⟨by first | assumption | (unfold vp_in; decide) | ((with_reducible (refine vp_in_nI ?_ ?_)) <;> omega), ?_⟩ | fail)
    all_goals (try (exfalso; (simp (disch := omega) only [li0, li1, li2, li3, li4, li5, li6, li7, li8, li9, li10, li11, li12, li13, li14, li15, li16, li17, li18, li19, li20, li60, li96, li99, li255, li999, ofN, nI_leI, nI_ltI, nI_eq, nI_1, nI_add] at *); first | done | omega))
    rw [nIc (by omega)]
    exact h1
set_option maxRecDepth 100000 in
theorem X1_setClock (H : Rules C T) {c : Nat} (hc : isC c) {S K : Mem} (R : RepC c S K) {r : Nat} (hr : r < 2) {x : Int32} {Q : Pst} (h1 : ∀ S', RepC c S' (up K 5 r x) → Fr c (c + 5) S S' → Q none S') : C mX1_setClock [.ref c, .int (nI r), .int x] S Q := by
  have h1 := h1 (up S (c + 5) r x) R.put (Fr.put (by omega) (by omega))
  rcases hc with rfl | rfl | rfl <;>
  · refine Rules.go H (by decide) (Nat.le_of_ble_eq_true rfl) ?_
    repeat' (first | (refine Rules.st H okX1_setClock [] ?_; conv => whnf) | refine br_t (by first | decide | assumption) ?_ | refine br_f (by first | decide | assumption) ?_ | refine br_c (fun _ => ?_) (fun _ => ?_) | refine ⟨by decide, ?_⟩ | refine ⟨by first | assumption | (unfold vp_in; decide) | ((with_reducible (refine vp_in_nI ?_ ?_)) <;> omega), ?_⟩ | fail)
    all_goals (try (exfalso; (simp (disch := omega) only [li0, li1, li2, li3, li4, li5, li6, li7, li8, li9, li10, li11, li12, li13, li14, li15, li16, li17, li18, li19, li20, li60, li96, li99, li255, li999, ofN, nI_leI, nI_ltI, nI_eq, nI_1, nI_add] at *); first | done | omega))
    rw [nIc (by omega)]
    exact h1
def passK (K : Mem) (m : Nat) (x : Int32) : Mem := up K 5 m (K 5 m + x)
set_option maxRecDepth 100000 in
theorem X1_pass (H : Rules C T) {c : Nat} (hc : isC c) {S K : Mem} (R : RepC c S K) {m : Nat} (hm : m < 2) {x : Int32} {Q : Pst} (h1 : ∀ S', RepC c S' (passK K m x) → Fr c (c + 5) S S' → Q none S') : C mX1_pass [.ref c, .int (nI m), .int x] S Q := by
  have h1 := h1 (up S (c + 5) m (K 5 m + x)) R.put (Fr.put (by omega) (by omega))
  rw [← R 5 m (by simp [inr]; omega)] at h1
  rcases hc with rfl | rfl | rfl <;>
  · refine Rules.go H (by decide) (Nat.le_of_ble_eq_true rfl) ?_
    repeat' (first | (refine Rules.st H okX1_pass [] ?_; conv => whnf) | refine br_t (by first | decide | assumption) ?_ | refine br_f (by first | decide | assumption) ?_ | refine br_c (fun _ => ?_) (fun _ => ?_) | refine ⟨by decide, ?_⟩ | refine ⟨by first | assumption | (unfold vp_in; decide) | ((with_reducible (refine vp_in_nI ?_ ?_)) <;> omega), ?_⟩ | fail)
    all_goals (try (exfalso; (simp (disch := omega) only [li0, li1, li2, li3, li4, li5, li6, li7, li8, li9, li10, li11, li12, li13, li14, li15, li16, li17, li18, li19, li20, li60, li96, li99, li255, li999, ofN, nI_leI, nI_ltI, nI_eq, nI_1, nI_add] at *); first | done | omega))
    rw [nIc (by omega)]
    exact h1
set_option maxRecDepth 100000 in
theorem X1_keepIn (H : Rules C T) {c : Nat} (hc : isC c) {S K : Mem} (R : RepC c S K) {x : Int32} {Q : Pst} (h1 : ∀ S', RepC c S' (up K 0 3 x) → Fr c (c + 5) S S' → Q none S') : C mX1_keepIn [.ref c, .int x] S Q := by
  have h1 := h1 (up S (c + 0) 3 x) R.put (Fr.put (by omega) (by omega))
  rcases hc with rfl | rfl | rfl <;>
  · refine Rules.go H (by decide) (Nat.le_of_ble_eq_true rfl) ?_
    repeat' (first | (refine Rules.st H okX1_keepIn [] ?_; conv => whnf) | refine br_t (by first | decide | assumption) ?_ | refine br_f (by first | decide | assumption) ?_ | refine br_c (fun _ => ?_) (fun _ => ?_) | refine ⟨by decide, ?_⟩ | refine ⟨by first | assumption | (unfold vp_in; decide) | ((with_reducible (refine vp_in_nI ?_ ?_)) <;> omega), ?_⟩ | fail)
    exact h1
/-- a bit of a set, as the bytecode takes it -/
def bt (x : Int32) (r : Nat) : Int32 := (x >>> (nI r &&& 31)) &&& 1
set_option maxRecDepth 100000 in
theorem X1_isDone (H : Rules C T) {c : Nat} (hc : isC c) {S K : Mem} (R : RepC c S K) {r : Nat} {Q : Pst} (h1 : ¬ bt (K 0 1) r = 0 → Q (some (.int 1)) S) (h0 : bt (K 0 1) r = 0 → Q (some (.int 0)) S) : C mX1_isDone [.ref c, .int (nI r)] S Q := by
  rw [← R 0 1 (by simp [inr])] at h1 h0
  rcases hc with rfl | rfl | rfl <;>
  · refine Rules.go H (by decide) (Nat.le_of_ble_eq_true rfl) ?_
    repeat' (first | (refine Rules.st H okX1_isDone [] ?_; conv => whnf) | refine br_t (by first | decide | assumption) ?_ | refine br_f (by first | decide | assumption) ?_ | refine br_c (fun _ => ?_) (fun _ => ?_) | refine ⟨by decide, ?_⟩ | refine ⟨by first | assumption | (unfold vp_in; decide) | ((with_reducible (refine vp_in_nI ?_ ?_)) <;> omega), ?_⟩ | fail)
    · exact h0 ‹_›
    · exact h1 ‹_›
set_option maxRecDepth 100000 in
theorem X1_hasCard (H : Rules C T) {c : Nat} (hc : isC c) {S K : Mem} (R : RepC c S K) {r : Nat} {Q : Pst} (h1 : ¬ bt (K 0 2) r = 0 → Q (some (.int 1)) S) (h0 : bt (K 0 2) r = 0 → Q (some (.int 0)) S) : C mX1_hasCard [.ref c, .int (nI r)] S Q := by
  rw [← R 0 2 (by simp [inr])] at h1 h0
  rcases hc with rfl | rfl | rfl <;>
  · refine Rules.go H (by decide) (Nat.le_of_ble_eq_true rfl) ?_
    repeat' (first | (refine Rules.st H okX1_hasCard [] ?_; conv => whnf) | refine br_t (by first | decide | assumption) ?_ | refine br_f (by first | decide | assumption) ?_ | refine br_c (fun _ => ?_) (fun _ => ?_) | refine ⟨by decide, ?_⟩ | refine ⟨by first | assumption | (unfold vp_in; decide) | ((with_reducible (refine vp_in_nI ?_ ?_)) <;> omega), ?_⟩ | fail)
    · exact h0 ‹_›
    · exact h1 ‹_›
set_option maxRecDepth 100000 in
theorem X1_changeDone (H : Rules C T) {c : Nat} (hc : isC c) {S K : Mem} (R : RepC c S K) {r : Nat} {Q : Pst} (h1 : ∀ S', RepC c S' (up K 0 1 (K 0 1 ^^^ (1 <<< (nI r &&& 31)))) → Fr c (c + 5) S S' → Q none S') : C mX1_changeDone [.ref c, .int (nI r)] S Q := by
  have h1 := h1 (up S (c + 0) 1 (K 0 1 ^^^ (1 <<< (nI r &&& 31)))) R.put (Fr.put (by omega) (by omega))
  rw [← R 0 1 (by simp [inr])] at h1
  rcases hc with rfl | rfl | rfl <;>
  · refine Rules.go H (by decide) (Nat.le_of_ble_eq_true rfl) ?_
    repeat' (first | (refine Rules.st H okX1_changeDone [] ?_; conv => whnf) | refine br_t (by first | decide | assumption) ?_ | refine br_f (by first | decide | assumption) ?_ | refine br_c (fun _ => ?_) (fun _ => ?_) | refine ⟨by decide, ?_⟩ | refine ⟨by first | assumption | (unfold vp_in; decide) | ((with_reducible (refine vp_in_nI ?_ ?_)) <;> omega), ?_⟩ | fail)
    exact h1
set_option maxRecDepth 100000 in
theorem X1_changeCard (H : Rules C T) {c : Nat} (hc : isC c) {S K : Mem} (R : RepC c S K) {r : Nat} {Q : Pst} (h1 : ∀ S', RepC c S' (up K 0 2 (K 0 2 ^^^ (1 <<< (nI r &&& 31)))) → Fr c (c + 5) S S' → Q none S') : C mX1_changeCard [.ref c, .int (nI r)] S Q := by
  have h1 := h1 (up S (c + 0) 2 (K 0 2 ^^^ (1 <<< (nI r &&& 31)))) R.put (Fr.put (by omega) (by omega))
  rw [← R 0 2 (by simp [inr])] at h1
  rcases hc with rfl | rfl | rfl <;>
  · refine Rules.go H (by decide) (Nat.le_of_ble_eq_true rfl) ?_
    repeat' (first | (refine Rules.st H okX1_changeCard [] ?_; conv => whnf) | refine br_t (by first | decide | assumption) ?_ | refine br_f (by first | decide | assumption) ?_ | refine br_c (fun _ => ?_) (fun _ => ?_) | refine ⟨by decide, ?_⟩ | refine ⟨by first | assumption | (unfold vp_in; decide) | ((with_reducible (refine vp_in_nI ?_ ?_)) <;> omega), ?_⟩ | fail)
    exact h1
set_option maxRecDepth 100000 in
theorem X1_hasMaid (H : Rules C T) {c : Nat} {S : Mem} {x : Int32} {Q : Pst} (h1 : ∀ m, m < 2 → x = nI m → Q (some (.int 1)) S) (h0 : (∀ m, m < 2 → ¬ x = nI m) → Q (some (.int 0)) S) : C mX1_hasMaid [.ref c, .int x] S Q := by
  refine Rules.go H (by decide) (Nat.le_of_ble_eq_true rfl) ?_
  repeat' (first | (refine Rules.st H okX1_hasMaid [] ?_; conv => whnf) | refine br_t (by first | decide | assumption) ?_ | refine br_f (by first | decide | assumption) ?_ | refine br_c (fun _ => ?_) (fun _ => ?_) | refine ⟨by decide, ?_⟩ | refine ⟨by first | assumption | (unfold vp_in; decide) | ((with_reducible (refine vp_in_nI ?_ ?_)) <;> omega), ?_⟩ | fail)
  · exact h1 0 (by omega) ‹_›
  · exact h1 1 (by omega) ‹_›
  · exact h0 (fun m hm => by
      rcases (show m = 0 ∨ m = 1 by omega) with rfl | rfl
      · assumption
      · assumption)
set_option maxRecDepth 100000 in
theorem X1_hasPlace (H : Rules C T) {c : Nat} (hc : isC c) {S K : Mem} (R : RepC c S K) {n : Nat} (hn : K 0 0 = nI n) (hn8 : n ≤ 8) {x : Int32} {Q : Pst} (h1 : ∀ r, r ≤ n → x = nI r → Q (some (.int 1)) S) (h0 : (∀ r, r ≤ n → ¬ x = nI r) → Q (some (.int 0)) S) : C mX1_hasPlace [.ref c, .int x] S Q := by
  rw [← R 0 0 (by simp [inr])] at hn
  have key1 : ¬ x < 0 → x ≤ S (c + 0) 0 → Q (some (.int 1)) S := fun g1 g2 => by
    obtain ⟨j, hj, e⟩ := nI_of g1
    exact h1 j (by rw [e, hn] at g2; exact (nI_leI hj (by omega)).mp g2) e
  have key0 : (x < 0 ∨ ¬ x ≤ S (c + 0) 0) → Q (some (.int 0)) S := fun g => h0 fun r hr e => by
    rw [e, hn] at g
    exact g.elim (nI_pos (by omega)) (fun z => z (nI_le hr (by omega)))
  rcases hc with rfl | rfl | rfl <;>
  · refine Rules.go H (by decide) (Nat.le_of_ble_eq_true rfl) ?_
    repeat' (first | (refine Rules.st H okX1_hasPlace [] ?_; conv => whnf) | refine br_t (by first | decide | assumption) ?_ | refine br_f (by first | decide | assumption) ?_ | refine br_c (fun _ => ?_) (fun _ => ?_) | refine ⟨by decide, ?_⟩ | refine ⟨by first | assumption | (unfold vp_in; decide) | ((with_reducible (refine vp_in_nI ?_ ?_)) <;> omega), ?_⟩ | fail)
    · exact key0 (Or.inl ‹_›)
    · exact key0 (Or.inr (Int32.not_le.mpr ‹_›))
    · exact key1 ‹_› (Int32.not_lt.mp ‹_›)
end CORR2
