section M46
variable {C : Cst} {T : Nat → Pst → Nat → Lcs → List Value → Mem → Prop}
/-! the choices that an inspector may look at, counted one by one: the class's count is that of the ways -/
set_option maxRecDepth 100000 in
theorem xo_0 {x y : Int32} (h : x ^^^ y = 0) : x = y := by
  have e : x ^^^ y ^^^ y = y := by rw [h, Int32.zero_xor]
  rw [Int32.xor_assoc, Int32.xor_self, Int32.xor_comm, Int32.zero_xor] at e
  exact e
set_option maxRecDepth 100000 in
theorem sub_q {i D : Nat} (hi : i < 256) : nI i &&& (nI D ^^^ (-1)) = 0 ↔ i &&& D = i := by
  have key : nI i &&& (nI D ^^^ (-1)) = nI (i &&& D) ^^^ nI i := by
    rw [Int32.and_comm, and_x, Int32.neg_one_and, Int32.and_comm, nI_and]
  rw [key]
  constructor
  · intro h
    exact (nI_eq (Nat.lt_of_le_of_lt Nat.and_le_left (by omega)) (by omega)).mp (xo_0 h)
  · intro h
    rw [h, Int32.xor_self]
noncomputable def icA (q k : Nat) : Nat := Nat.rec (motive := fun _ => Nat) 0 (fun k r => Nat.add r (cond (Nat.beq (popN k) q) 1 0)) k
noncomputable def icB (D q k : Nat) : Nat := Nat.rec (motive := fun _ => Nat) 0 (fun k r => Nat.add r (cond (Nat.beq (popN k) q) (cond (Nat.beq (Nat.land k D) k) 0 1) 0)) k
def chN : Nat → Nat → Nat
  | _, 0 => 1
  | 0, _ + 1 => 0
  | n + 1, q + 1 => chN n q + chN n (q + 1)
set_option maxRecDepth 100000 in
theorem icA_le (q : Nat) : ∀ i, icA q i ≤ i
  | 0 => Nat.le_refl 0
  | i + 1 => by
    have h := icA_le q i
    show icA q i + cond (Nat.beq (popN i) q) 1 0 ≤ i + 1
    cases Nat.beq (popN i) q
    · show icA q i + 0 ≤ i + 1
      omega
    · show icA q i + 1 ≤ i + 1
      omega
set_option maxRecDepth 100000 in
theorem icB_le (D q : Nat) : ∀ i, icB D q i ≤ i
  | 0 => Nat.le_refl 0
  | i + 1 => by
    have h := icB_le D q i
    show icB D q i + cond (Nat.beq (popN i) q) (cond (Nat.beq (Nat.land i D) i) 0 1) 0 ≤ i + 1
    cases Nat.beq (popN i) q
    · show icB D q i + 0 ≤ i + 1
      omega
    · cases Nat.beq (Nat.land i D) i
      · show icB D q i + 1 ≤ i + 1
        omega
      · show icB D q i + 0 ≤ i + 1
        omega
set_option maxRecDepth 100000 in
theorem ofL_1 : ∀ a, a < 256 → Int64.ofNat (a + 1) = Int64.ofNat a + 1 := by decide +kernel
set_option maxRecDepth 100000 in
theorem ins_eq {D q : Nat} (hq : q ≤ 8) : ∀ (k i : Nat), i + k ≤ 256 → insK (nI D) (nI q) k i (Int64.ofNat (icA q i), Int64.ofNat (icB D q i)) = (Int64.ofNat (icA q (i + k)), Int64.ofNat (icB D q (i + k)))
  | 0, _, _ => rfl
  | k + 1, i, h => by
    obtain ⟨t1, t2⟩ := pop_t 8 (by omega) i (by omega)
    have sA : icA q (i + 1) = icA q i + cond (Nat.beq (popN i) q) 1 0 := rfl
    have sB : icB D q (i + 1) = icB D q i + cond (Nat.beq (popN i) q) (cond (Nat.beq (Nat.land i D) i) 0 1) 0 := rfl
    have lA := icA_le q i
    have lB := icB_le D q i
    have key : (if pcI (nI i) = nI q then (Int64.ofNat (icA q i) + 1, if nI i &&& (nI D ^^^ (-1)) = 0 then Int64.ofNat (icB D q i) + 0 else Int64.ofNat (icB D q i) + 1) else (Int64.ofNat (icA q i), Int64.ofNat (icB D q i))) = (Int64.ofNat (icA q (i + 1)), Int64.ofNat (icB D q (i + 1))) := by
      rw [t1, sA, sB]
      cases b : Nat.beq (popN i) q with
      | true =>
        rw [if_pos (congrArg nI (Nat.eq_of_beq_eq_true b))]
        show _ = (Int64.ofNat (icA q i + 1), Int64.ofNat (icB D q i + cond (Nat.beq (Nat.land i D) i) 0 1))
        rw [ofL_1 _ (by omega)]
        cases b2 : Nat.beq (Nat.land i D) i with
        | true =>
          rw [if_pos ((sub_q (by omega)).mpr (Nat.eq_of_beq_eq_true b2)), Int64.add_zero]
          rfl
        | false =>
          rw [if_neg (fun z => Nat.ne_of_beq_eq_false b2 ((sub_q (by omega)).mp z))]
          show _ = (_, Int64.ofNat (icB D q i + 1))
          rw [ofL_1 _ (by omega)]
      | false =>
        rw [if_neg (fun z => Nat.ne_of_beq_eq_false b ((nI_eq (by omega) (by omega)).mp z))]
        rfl
    unfold insK
    show insK (nI D) (nI q) k (i + 1) (if pcI (nI i) = nI q then (Int64.ofNat (icA q i) + 1, if nI i &&& (nI D ^^^ (-1)) = 0 then Int64.ofNat (icB D q i) + 0 else Int64.ofNat (icB D q i) + 1) else (Int64.ofNat (icA q i), Int64.ofNat (icB D q i))) = _
    rw [key, show i + (k + 1) = (i + 1) + k by omega]
    exact ins_eq hq k (i + 1) (by omega)
set_option maxRecDepth 100000 in
theorem icA_t : ∀ n, n < 9 → ∀ q, q < 9 → icA q (2 ^ n) = chN n q := by decide +kernel
set_option maxRecDepth 100000 in
theorem icB_t : ∀ n, n < 9 → ∀ D, D < 2 ^ n → ∀ q, q < 9 → icB D q (2 ^ n) = chN n q - chN (popN D) q := by decide +kernel
set_option maxRecDepth 100000 in
theorem ch_w : ∀ n, n < 9 → ∀ d, d ≤ n → ∀ q, q < 9 → Int64.ofNat (chN n q) = waysL (nI n) q 0 1 ∧ Int64.ofNat (chN n q - chN d q) = waysL (nI n) q 0 1 - waysL (nI d) q 0 1 := by decide +kernel
set_option maxRecDepth 100000 in
theorem insp_eq {K : Mem} {n : Nat} (g : Gd K n) (k p : Int32) : F_inspectedC K n k p = F_inspected K n k p := by
  unfold F_inspectedC F_inspected
  by_cases c1 : k < 0
  · rw [if_pos c1, if_pos c1]
  by_cases c2 : 8 < k
  · rw [if_neg c1, if_neg c1, if_pos c2, if_pos c2]
  by_cases c3 : nI n < k
  · rw [if_neg c1, if_neg c1, if_neg c2, if_neg c2, if_pos c3, if_pos c3]
  by_cases c4 : p < 0 ∨ 1 < p
  · rw [if_neg c1, if_neg c1, if_neg c2, if_neg c2, if_neg c3, if_neg c3, if_pos c4, if_pos c4]
  rw [if_neg c1, if_neg c1, if_neg c2, if_neg c2, if_neg c3, if_neg c3, if_neg c4, if_neg c4]
  obtain ⟨q, hq, rfl⟩ := nI_of c1
  have q8 : q ≤ 8 := by
    rw [ltT, nIt hq] at c2
    have : (8 : Int32).toInt = 8 := by decide
    omega
  have h8 := g.2.1
  have h256 := pow8 h8
  obtain ⟨D, hD, eD⟩ := g.2.2.1
  obtain ⟨t1, t2⟩ := pop_t n (by omega) D hD
  have e := ins_eq (D := D) q8 (2 ^ n) 0 (by omega)
  rw [Nat.zero_add, icA_t n (by omega) q (by omega), icB_t n (by omega) D hD q (by omega)] at e
  obtain ⟨w1, w2⟩ := ch_w n (by omega) (popN D) t2 q (by omega)
  rw [show ix (nI q) = q from nIc (by omega), eD, t1, ← w2, ← w1]
  have e2 : insK (nI D) (nI q) (2 ^ n) 0 (0, 0) = (Int64.ofNat (chN n q), Int64.ofNat (chN n q - chN (popN D) q)) := e
  rw [e2]
set_option maxRecDepth 100000 in
theorem X4_inspected (H : Rules C T) {S K : Mem} {n : Nat} (X : XK S K n) (g : Gd K n) {k p : Int32} {Q : Pst} (h1 : AnsXL S (F_inspected K n k p) Q) : C mX4_inspected [.ref 0, .int k, .int p] S Q := by
  rw [← insp_eq g] at h1
  exact X4_inspectedC H X h1
end M46
