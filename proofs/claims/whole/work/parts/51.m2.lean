section M2
variable {C : Cst} {T : Nat → Pst → Nat → Lcs → List Value → Mem → Prop}
/-- what the reference keeps of S0 stands at the place w of its row kept -/
def KeptM (w : Nat) (S S0 : Mem) : Prop := ∀ j, j < 39 → S 38 (39 * w + j) = S0 (kp j).1 (kp j).2
/-- a place that is kept -/
def inP (a j : Nat) : Prop := (a = 25 ∧ j = 8) ∨ ((a = 27 ∨ a = 28 ∨ a = 29 ∨ a = 30) ∧ j < 8) ∨ ((a = 31 ∨ a = 32 ∨ a = 33) ∧ j < 2)
/-- keeping changes nothing else -/
def FrP (w : Nat) (S S' : Mem) : Prop := ∀ a j, ¬ (a = 38 ∧ 39 * w ≤ j ∧ j < 39 * w + 39) → ¬ (a = 25 ∧ (j = 19 ∨ j = 20)) → S' a j = S a j
set_option maxRecDepth 100000 in
theorem kp_in : ∀ j, j < 39 → inP (kp j).1 (kp j).2 := by
  intro j hj
  unfold kp inP
  repeat' split
  all_goals dsimp only
  all_goals omega
set_option maxRecDepth 100000 in
theorem inP_kp {a j : Nat} (h : inP a j) : ∃ i, i < 39 ∧ (kp i).1 = a ∧ (kp i).2 = j := by
  unfold inP at h
  rcases h with ⟨rfl, rfl⟩ | ⟨rfl | rfl | rfl | rfl, h⟩ | ⟨rfl | rfl | rfl, h⟩
  · exact ⟨38, by omega, rfl, rfl⟩
  · exact ⟨j, by omega, by unfold kp; rw [if_pos (by omega)], by unfold kp; rw [if_pos (by omega)]⟩
  · exact ⟨8 + j, by omega, by unfold kp; rw [if_neg (by omega), if_pos (by omega)], by unfold kp; rw [if_neg (by omega), if_pos (by omega)]; dsimp only; omega⟩
  · exact ⟨16 + j, by omega, by unfold kp; rw [if_neg (by omega), if_neg (by omega), if_pos (by omega)], by unfold kp; rw [if_neg (by omega), if_neg (by omega), if_pos (by omega)]; dsimp only; omega⟩
  · exact ⟨24 + j, by omega, by unfold kp; rw [if_neg (by omega), if_neg (by omega), if_neg (by omega), if_pos (by omega)], by unfold kp; rw [if_neg (by omega), if_neg (by omega), if_neg (by omega), if_pos (by omega)]; dsimp only; omega⟩
  · exact ⟨32 + j, by omega, by unfold kp; rw [if_neg (by omega), if_neg (by omega), if_neg (by omega), if_neg (by omega), if_pos (by omega)], by unfold kp; rw [if_neg (by omega), if_neg (by omega), if_neg (by omega), if_neg (by omega), if_pos (by omega)]; dsimp only; omega⟩
  · exact ⟨34 + j, by omega, by unfold kp; rw [if_neg (by omega), if_neg (by omega), if_neg (by omega), if_neg (by omega), if_neg (by omega), if_pos (by omega)], by unfold kp; rw [if_neg (by omega), if_neg (by omega), if_neg (by omega), if_neg (by omega), if_neg (by omega), if_pos (by omega)]; dsimp only; omega⟩
  · exact ⟨36 + j, by omega, by unfold kp; rw [if_neg (by omega), if_neg (by omega), if_neg (by omega), if_neg (by omega), if_neg (by omega), if_neg (by omega), if_pos (by omega)], by unfold kp; rw [if_neg (by omega), if_neg (by omega), if_neg (by omega), if_neg (by omega), if_neg (by omega), if_neg (by omega), if_pos (by omega)]; dsimp only; omega⟩
/-- after so many places: c of 39 are kept -/
def KpI (w c : Nat) (S S0 : Mem) : Prop := S 25 19 = 1 ∧ S 25 20 = nI (39 * w + c) ∧ (∀ j, j < c → S 38 (39 * w + j) = S0 (kp j).1 (kp j).2) ∧ FrP w S0 S
set_option maxRecDepth 100000 in
theorem KpI.row {w c a len : Nat} {S S0 : Mem} (ha : isA a len) (hw : w < 3) (hc : c + len ≤ 38) (hk : ∀ i, i < len → kp (c + i) = (a, i)) (h : KpI w c S S0) : KpI w (c + len) (pK a len (39 * w + c) 0 S) S0 := by
  obtain ⟨h1, h2, h3, h4⟩ := h
  unfold isA at ha
  refine ⟨?_, ?_, fun j hj => ?_, fun b j g1 g2 => ?_⟩
  · unfold pK
    rw [if_neg (by omega), if_neg (by omega), h1]
  · unfold pK
    rw [if_neg (by omega), if_pos ⟨rfl, rfl⟩, Nat.add_assoc]
  · unfold pK
    by_cases q : j < c
    · rw [if_neg (by omega), if_neg (by omega)]
      exact h3 j q
    · rw [if_pos ⟨rfl, by omega, by omega⟩]
      have e := hk (j - c) (by omega)
      rw [show c + (j - c) = j by omega] at e
      rw [e, show 39 * w + j - (39 * w + c) = j - c by omega]
      exact h4 a (j - c) (by omega) (by omega)
  · unfold pK
    rw [if_neg (by omega), if_neg (by omega)]
    exact h4 b j g1 g2
set_option maxRecDepth 100000 in
theorem X5_passesAll_K (H : Rules C T) {w : Nat} (hw : w < 3) {S : Mem} {Q : Pst} (h1 : ∀ S', KeptM w S' S → FrP w S S' → Q none S') : C mX5_passesAll [.ref 25, .int (nI w), .int 1] S Q := by
  have e : (39 : Int32) * nI w = nI (39 * w) := by
    rcases (show w = 0 ∨ w = 1 ∨ w = 2 by omega) with rfl | rfl | rfl <;> rfl
  have k0 : KpI w 0 (up (up S 25 20 (39 * nI w)) 25 19 1) S := by
    refine ⟨up_at, by rw [up_j (by omega), up_at]; exact e, fun j hj => absurd hj (by omega), fun b j g1 g2 => ?_⟩
    unfold up
    rw [if_neg (by omega), if_neg (by omega)]
  have a27 : isA 27 8 := by unfold isA; omega
  have a28 : isA 28 8 := by unfold isA; omega
  have a29 : isA 29 8 := by unfold isA; omega
  have a30 : isA 30 8 := by unfold isA; omega
  have a31 : isA 31 2 := by unfold isA; omega
  have a32 : isA 32 2 := by unfold isA; omega
  have a33 : isA 33 2 := by unfold isA; omega
  have k1 := k0.row a27 hw (by omega) (by decide)
  have k2 := k1.row a28 hw (by omega) (by decide)
  have k3 := k2.row a29 hw (by omega) (by decide)
  have k4 := k3.row a30 hw (by omega) (by decide)
  have k5 := k4.row a31 hw (by omega) (by decide)
  have k6 := k5.row a32 hw (by omega) (by decide)
  have k7 := k6.row a33 hw (by omega) (by decide)
  refine Rules.go H (by decide) (Nat.le_of_ble_eq_true rfl) ?_
  repeat' (first | (refine Rules.st H okX5_passesAll [] ?_; conv => whnf) | refine br_t (by first | decide | assumption) ?_ | refine br_f (by first | decide | assumption) ?_ | refine br_c (fun _ => ?_) (fun _ => ?_) | refine ⟨by decide, ?_⟩ | refine ⟨by first | assumption | (unfold vp_in; decide) | ((with_reducible (refine vp_in_nI ?_ ?_)) <;> omega), ?_⟩ | fail)
  refine X5_passes_K H a27 (by omega) k0.1 k0.2.1 ?_
  repeat' (first | (refine Rules.st H okX5_passesAll [] ?_; conv => whnf) | refine br_t (by first | decide | assumption) ?_ | refine br_f (by first | decide | assumption) ?_ | refine br_c (fun _ => ?_) (fun _ => ?_) | refine ⟨by decide, ?_⟩ | refine ⟨by first | assumption | (unfold vp_in; decide) | ((with_reducible (refine vp_in_nI ?_ ?_)) <;> omega), ?_⟩ | fail)
  refine X5_passes_K H a28 (by omega) k1.1 k1.2.1 ?_
  repeat' (first | (refine Rules.st H okX5_passesAll [] ?_; conv => whnf) | refine br_t (by first | decide | assumption) ?_ | refine br_f (by first | decide | assumption) ?_ | refine br_c (fun _ => ?_) (fun _ => ?_) | refine ⟨by decide, ?_⟩ | refine ⟨by first | assumption | (unfold vp_in; decide) | ((with_reducible (refine vp_in_nI ?_ ?_)) <;> omega), ?_⟩ | fail)
  refine X5_passes_K H a29 (by omega) k2.1 k2.2.1 ?_
  repeat' (first | (refine Rules.st H okX5_passesAll [] ?_; conv => whnf) | refine br_t (by first | decide | assumption) ?_ | refine br_f (by first | decide | assumption) ?_ | refine br_c (fun _ => ?_) (fun _ => ?_) | refine ⟨by decide, ?_⟩ | refine ⟨by first | assumption | (unfold vp_in; decide) | ((with_reducible (refine vp_in_nI ?_ ?_)) <;> omega), ?_⟩ | fail)
  refine X5_passes_K H a30 (by omega) k3.1 k3.2.1 ?_
  repeat' (first | (refine Rules.st H okX5_passesAll [] ?_; conv => whnf) | refine br_t (by first | decide | assumption) ?_ | refine br_f (by first | decide | assumption) ?_ | refine br_c (fun _ => ?_) (fun _ => ?_) | refine ⟨by decide, ?_⟩ | refine ⟨by first | assumption | (unfold vp_in; decide) | ((with_reducible (refine vp_in_nI ?_ ?_)) <;> omega), ?_⟩ | fail)
  refine X5_passes_K H a31 (by omega) k4.1 k4.2.1 ?_
  repeat' (first | (refine Rules.st H okX5_passesAll [] ?_; conv => whnf) | refine br_t (by first | decide | assumption) ?_ | refine br_f (by first | decide | assumption) ?_ | refine br_c (fun _ => ?_) (fun _ => ?_) | refine ⟨by decide, ?_⟩ | refine ⟨by first | assumption | (unfold vp_in; decide) | ((with_reducible (refine vp_in_nI ?_ ?_)) <;> omega), ?_⟩ | fail)
  refine X5_passes_K H a32 (by omega) k5.1 k5.2.1 ?_
  repeat' (first | (refine Rules.st H okX5_passesAll [] ?_; conv => whnf) | refine br_t (by first | decide | assumption) ?_ | refine br_f (by first | decide | assumption) ?_ | refine br_c (fun _ => ?_) (fun _ => ?_) | refine ⟨by decide, ?_⟩ | refine ⟨by first | assumption | (unfold vp_in; decide) | ((with_reducible (refine vp_in_nI ?_ ?_)) <;> omega), ?_⟩ | fail)
  refine X5_passes_K H a33 (by omega) k6.1 k6.2.1 ?_
  generalize pK 33 _ _ _ _ = S7 at k7 ⊢
  obtain ⟨_, g2, g3, g4⟩ := k7
  have hv : vp_in (S7 25 20) 117 := by rw [g2]; exact vp_in_nI (by omega) (by omega)
  have hp : Q none (up S7 38 (S7 25 20).toNatClampNeg (S7 25 8)) := by
    rw [g2, nIc (by omega)]
    refine h1 _ (fun j hj => ?_) (fun b j q1 q2 => ?_)
    · unfold up
      by_cases q : j = 38
      · subst q
        rw [if_pos ⟨rfl, by omega⟩]
        exact g4 25 8 (by omega) (by omega)
      · rw [if_neg (by omega)]
        exact g3 j (by omega)
    · unfold up
      rw [if_neg (by omega)]
      exact g4 b j q1 q2
  repeat' (first | (refine Rules.st H okX5_passesAll [] ?_; conv => whnf) | refine br_t (by first | decide | assumption) ?_ | refine br_f (by first | decide | assumption) ?_ | refine br_c (fun _ => ?_) (fun _ => ?_) | refine ⟨by decide, ?_⟩ | refine ⟨by first | assumption | (unfold vp_in; decide) | ((with_reducible (refine vp_in_nI ?_ ?_)) <;> omega), ?_⟩ | fail)
  exact hp
/-- c of 39 are put back -/
def KpB (w c : Nat) (S S1 : Mem) : Prop := S 25 19 = 0 ∧ S 25 20 = nI (39 * w + c) ∧ (∀ j, j < c → S (kp j).1 (kp j).2 = S1 38 (39 * w + j)) ∧ ∀ a j, ¬ inP a j → ¬ (a = 25 ∧ (j = 19 ∨ j = 20)) → S a j = S1 a j
set_option maxRecDepth 100000 in
theorem KpB.row {w c a len : Nat} {S S1 : Mem} (ha : isA a len) (hc : c + len ≤ 38) (hk : ∀ i, i < len → kp (c + i) = (a, i)) (hk2 : ∀ j, j < c → ¬ (kp j).1 = a) (hk3 : ∀ i, i < len → inP a i) (h : KpB w c S S1) : KpB w (c + len) (pB a len (39 * w + c) 0 S) S1 := by
  obtain ⟨h1, h2, h3, h4⟩ := h
  unfold isA at ha
  refine ⟨?_, ?_, fun j hj => ?_, fun b j g1 g2 => ?_⟩
  · unfold pB
    rw [if_neg (by omega), if_neg (by omega), h1]
  · unfold pB
    rw [if_neg (by omega), if_pos ⟨rfl, rfl⟩, Nat.add_assoc]
  · unfold pB
    by_cases q : j < c
    · rw [if_neg (fun z => hk2 j q z.1), if_neg (fun z => by
        have := kp_in j (by omega)
        unfold inP at this
        omega)]
      exact h3 j q
    · have e := hk (j - c) (by omega)
      rw [show c + (j - c) = j by omega] at e
      rw [e]
      dsimp only
      rw [if_pos ⟨rfl, by omega, by omega⟩, show 39 * w + c + (j - c) = 39 * w + j by omega]
      exact h4 38 _ (by unfold inP; omega) (by omega)
  · unfold pB
    rw [if_neg (fun z : b = a ∧ 0 ≤ j ∧ j < len => g1 (by rw [z.1]; exact hk3 j z.2.2)), if_neg (by omega)]
    exact h4 b j g1 g2
set_option maxRecDepth 100000 in
theorem X5_passesAll_B (H : Rules C T) {w : Nat} (hw : w < 3) {S S0 : Mem} (K0 : KeptM w S S0) {Q : Pst} (h1 : ∀ S', (∀ a j, inP a j → S' a j = S0 a j) → (∀ a j, ¬ inP a j → ¬ (a = 25 ∧ (j = 19 ∨ j = 20)) → S' a j = S a j) → Q none S') : C mX5_passesAll [.ref 25, .int (nI w), .int 0] S Q := by
  have e : (39 : Int32) * nI w = nI (39 * w) := by
    rcases (show w = 0 ∨ w = 1 ∨ w = 2 by omega) with rfl | rfl | rfl <;> rfl
  have k0 : KpB w 0 (up (up S 25 20 (39 * nI w)) 25 19 0) S := by
    refine ⟨up_at, by rw [up_j (by omega), up_at]; exact e, fun j hj => absurd hj (by omega), fun b j g1 g2 => ?_⟩
    unfold up
    rw [if_neg (by omega), if_neg (by omega)]
  have a27 : isA 27 8 := by unfold isA; omega
  have a28 : isA 28 8 := by unfold isA; omega
  have a29 : isA 29 8 := by unfold isA; omega
  have a30 : isA 30 8 := by unfold isA; omega
  have a31 : isA 31 2 := by unfold isA; omega
  have a32 : isA 32 2 := by unfold isA; omega
  have a33 : isA 33 2 := by unfold isA; omega
  have k1 := k0.row a27 (by omega) (by decide) (by decide) (fun i hi => by unfold inP; omega)
  have k2 := k1.row a28 (by omega) (by decide) (by decide) (fun i hi => by unfold inP; omega)
  have k3 := k2.row a29 (by omega) (by decide) (by decide) (fun i hi => by unfold inP; omega)
  have k4 := k3.row a30 (by omega) (by decide) (by decide) (fun i hi => by unfold inP; omega)
  have k5 := k4.row a31 (by omega) (by decide) (by decide) (fun i hi => by unfold inP; omega)
  have k6 := k5.row a32 (by omega) (by decide) (by decide) (fun i hi => by unfold inP; omega)
  have k7 := k6.row a33 (by omega) (by decide) (by decide) (fun i hi => by unfold inP; omega)
  refine Rules.go H (by decide) (Nat.le_of_ble_eq_true rfl) ?_
  repeat' (first | (refine Rules.st H okX5_passesAll [] ?_; conv => whnf) | refine br_t (by first | decide | assumption) ?_ | refine br_f (by first | decide | assumption) ?_ | refine br_c (fun _ => ?_) (fun _ => ?_) | refine ⟨by decide, ?_⟩ | refine ⟨by first | assumption | (unfold vp_in; decide) | ((with_reducible (refine vp_in_nI ?_ ?_)) <;> omega), ?_⟩ | fail)
  refine X5_passes_B H a27 (by omega) k0.1 k0.2.1 ?_
  repeat' (first | (refine Rules.st H okX5_passesAll [] ?_; conv => whnf) | refine br_t (by first | decide | assumption) ?_ | refine br_f (by first | decide | assumption) ?_ | refine br_c (fun _ => ?_) (fun _ => ?_) | refine ⟨by decide, ?_⟩ | refine ⟨by first | assumption | (unfold vp_in; decide) | ((with_reducible (refine vp_in_nI ?_ ?_)) <;> omega), ?_⟩ | fail)
  refine X5_passes_B H a28 (by omega) k1.1 k1.2.1 ?_
  repeat' (first | (refine Rules.st H okX5_passesAll [] ?_; conv => whnf) | refine br_t (by first | decide | assumption) ?_ | refine br_f (by first | decide | assumption) ?_ | refine br_c (fun _ => ?_) (fun _ => ?_) | refine ⟨by decide, ?_⟩ | refine ⟨by first | assumption | (unfold vp_in; decide) | ((with_reducible (refine vp_in_nI ?_ ?_)) <;> omega), ?_⟩ | fail)
  refine X5_passes_B H a29 (by omega) k2.1 k2.2.1 ?_
  repeat' (first | (refine Rules.st H okX5_passesAll [] ?_; conv => whnf) | refine br_t (by first | decide | assumption) ?_ | refine br_f (by first | decide | assumption) ?_ | refine br_c (fun _ => ?_) (fun _ => ?_) | refine ⟨by decide, ?_⟩ | refine ⟨by first | assumption | (unfold vp_in; decide) | ((with_reducible (refine vp_in_nI ?_ ?_)) <;> omega), ?_⟩ | fail)
  refine X5_passes_B H a30 (by omega) k3.1 k3.2.1 ?_
  repeat' (first | (refine Rules.st H okX5_passesAll [] ?_; conv => whnf) | refine br_t (by first | decide | assumption) ?_ | refine br_f (by first | decide | assumption) ?_ | refine br_c (fun _ => ?_) (fun _ => ?_) | refine ⟨by decide, ?_⟩ | refine ⟨by first | assumption | (unfold vp_in; decide) | ((with_reducible (refine vp_in_nI ?_ ?_)) <;> omega), ?_⟩ | fail)
  refine X5_passes_B H a31 (by omega) k4.1 k4.2.1 ?_
  repeat' (first | (refine Rules.st H okX5_passesAll [] ?_; conv => whnf) | refine br_t (by first | decide | assumption) ?_ | refine br_f (by first | decide | assumption) ?_ | refine br_c (fun _ => ?_) (fun _ => ?_) | refine ⟨by decide, ?_⟩ | refine ⟨by first | assumption | (unfold vp_in; decide) | ((with_reducible (refine vp_in_nI ?_ ?_)) <;> omega), ?_⟩ | fail)
  refine X5_passes_B H a32 (by omega) k5.1 k5.2.1 ?_
  repeat' (first | (refine Rules.st H okX5_passesAll [] ?_; conv => whnf) | refine br_t (by first | decide | assumption) ?_ | refine br_f (by first | decide | assumption) ?_ | refine br_c (fun _ => ?_) (fun _ => ?_) | refine ⟨by decide, ?_⟩ | refine ⟨by first | assumption | (unfold vp_in; decide) | ((with_reducible (refine vp_in_nI ?_ ?_)) <;> omega), ?_⟩ | fail)
  refine X5_passes_B H a33 (by omega) k6.1 k6.2.1 ?_
  generalize pB 33 _ _ _ _ = S7 at k7 ⊢
  obtain ⟨_, g2, g3, g4⟩ := k7
  have hv : vp_in (S7 25 20) 117 := by rw [g2]; exact vp_in_nI (by omega) (by omega)
  have hp : Q none (up S7 25 8 (S7 38 (S7 25 20).toNatClampNeg)) := by
    rw [g2, nIc (by omega)]
    refine h1 _ (fun a j hi => ?_) (fun b j q1 q2 => ?_)
    · obtain ⟨i, hi39, rfl, rfl⟩ := inP_kp hi
      rw [← K0 i hi39]
      by_cases q : i = 38
      · subst q
        show up S7 25 8 _ 25 8 = _
        rw [up_at]
        exact g4 38 _ (by unfold inP; omega) (by omega)
      · unfold up
        rw [if_neg (fun z => by
          have : ∀ i, i < 38 → ¬ ((kp i).1 = 25) := by decide
          exact this i (by omega) z.1)]
        exact g3 i (by omega)
    · unfold up
      rw [if_neg (fun z => q1 (Or.inl z))]
      exact g4 b j q1 q2
  repeat' (first | (refine Rules.st H okX5_passesAll [] ?_; conv => whnf) | refine br_t (by first | decide | assumption) ?_ | refine br_f (by first | decide | assumption) ?_ | refine br_c (fun _ => ?_) (fun _ => ?_) | refine ⟨by decide, ?_⟩ | refine ⟨by first | assumption | (unfold vp_in; decide) | ((with_reducible (refine vp_in_nI ?_ ?_)) <;> omega), ?_⟩ | fail)
  exact hp
set_option maxRecDepth 100000 in
theorem X5_minds (H : Rules C T) {S : Mem} {Q : Pst} (h1 : ∀ S', KeptM 2 S' S → FrP 2 S S' → Q none S') : C mX5_minds [.ref 25] S Q := by
  refine Rules.go H (by decide) (Nat.le_of_ble_eq_true rfl) ?_
  repeat' (first | (refine Rules.st H okX5_minds [] ?_; conv => whnf) | refine br_t (by first | decide | assumption) ?_ | refine br_f (by first | decide | assumption) ?_ | refine br_c (fun _ => ?_) (fun _ => ?_) | refine ⟨by decide, ?_⟩ | refine ⟨by first | assumption | (unfold vp_in; decide) | ((with_reducible (refine vp_in_nI ?_ ?_)) <;> omega), ?_⟩ | fail)
  refine X5_passesAll_K H (w := 2) (by omega) (fun S' k f => ?_)
  repeat' (first | (refine Rules.st H okX5_minds [] ?_; conv => whnf) | refine br_t (by first | decide | assumption) ?_ | refine br_f (by first | decide | assumption) ?_ | refine br_c (fun _ => ?_) (fun _ => ?_) | refine ⟨by decide, ?_⟩ | refine ⟨by first | assumption | (unfold vp_in; decide) | ((with_reducible (refine vp_in_nI ?_ ?_)) <;> omega), ?_⟩ | fail)
  exact h1 S' k f
set_option maxRecDepth 100000 in
theorem X5_forgets (H : Rules C T) {S S0 : Mem} (K0 : KeptM 2 S S0) {Q : Pst} (h1 : ∀ S', (∀ a j, inP a j → S' a j = S0 a j) → (∀ a j, ¬ inP a j → ¬ (a = 25 ∧ (j = 19 ∨ j = 20)) → S' a j = S a j) → Q none S') : C mX5_forgets [.ref 25] S Q := by
  refine Rules.go H (by decide) (Nat.le_of_ble_eq_true rfl) ?_
  repeat' (first | (refine Rules.st H okX5_forgets [] ?_; conv => whnf) | refine br_t (by first | decide | assumption) ?_ | refine br_f (by first | decide | assumption) ?_ | refine br_c (fun _ => ?_) (fun _ => ?_) | refine ⟨by decide, ?_⟩ | refine ⟨by first | assumption | (unfold vp_in; decide) | ((with_reducible (refine vp_in_nI ?_ ?_)) <;> omega), ?_⟩ | fail)
  refine X5_passesAll_B H (w := 2) (by omega) K0 (fun S' k f => ?_)
  repeat' (first | (refine Rules.st H okX5_forgets [] ?_; conv => whnf) | refine br_t (by first | decide | assumption) ?_ | refine br_f (by first | decide | assumption) ?_ | refine br_c (fun _ => ?_) (fun _ => ?_) | refine ⟨by decide, ?_⟩ | refine ⟨by first | assumption | (unfold vp_in; decide) | ((with_reducible (refine vp_in_nI ?_ ?_)) <;> omega), ?_⟩ | fail)
  exact h1 S' k f
end M2
