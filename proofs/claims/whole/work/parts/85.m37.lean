section M37
def dgs (l c : Nat) : Nat → List Nat
  | 0 => []
  | k + 1 => (c / l ^ k % l) :: dgs l c k
def seenN (l c : Nat) : Nat → Nat
  | 0 => 0
  | k + 1 => seenN l c k ||| 2 ^ (c / l ^ k % l)
def ndB (l c : Nat) : Bool := Nat.beq (popN (seenN l c l)) l
def permsR (l : Nat) : Nat → Nat → List (List Nat)
  | 0, _ => []
  | k + 1, c => match ndB l c with
    | true => dgs l c l :: permsR l k (c + 1)
    | false => permsR l k (c + 1)
def chn : Nat → List Nat → List (List Nat)
  | 0, _ => []
  | f + 1, s => match npL s with
    | none => [s]
    | some s' => s :: chn f s'
set_option maxRecDepth 100000 in
theorem perms_eq : ∀ l, l < 6 → 0 < l → chn 120 (List.range l) = permsR l (l ^ l) 0 := by decide +kernel
def refK (K : Mem) (m : Nat) (ls : List Nat) (l : Nat) : Nat → Nat → Bst → Bst
  | 0, _, b => b
  | k + 1, c, b => refK K m ls l k (c + 1) (match ndB l c with
    | true => ordB K m ls (dgs l c l) l b
    | false => b)
set_option maxRecDepth 100000 in
theorem refK_fold (K : Mem) (m : Nat) (ls : List Nat) (l : Nat) : ∀ (k c : Nat) (b : Bst), refK K m ls l k c b = (permsR l k c).foldl (fun b s => ordB K m ls s l b) b
  | 0, _, _ => rfl
  | k + 1, c, b => by
    unfold refK permsR
    rw [refK_fold K m ls l k (c + 1)]
    cases ndB l c <;> rfl
set_option maxRecDepth 100000 in
theorem seqK_fold (K : Mem) (m : Nat) (ls : List Nat) (l : Nat) : ∀ (f : Nat) (s : List Nat) (b : Bst), seqK K m ls l f s b = (chn f s).foldl (fun b s => ordB K m ls s l b) b
  | 0, _, _ => rfl
  | f + 1, s, b => by
    unfold seqK chn
    cases h : npL s with
    | none => rfl
    | some s' => exact seqK_fold K m ls l f s' _
set_option maxRecDepth 100000 in
theorem seq_ref (K : Mem) (m : Nat) (ls : List Nat) {l : Nat} (h5 : l < 6) (h0 : 0 < l) : seqK K m ls l 120 (List.range l) none = refK K m ls l (l ^ l) 0 none := by
  rw [seqK_fold, refK_fold, perms_eq l h5 h0]
def vN (ls : List Nat) (l c : Nat) : Nat → Nat
  | 0 => 0
  | k + 1 => vN ls l c k + 10 ^ k * (gN ls (c / l ^ k % l) + 1)
set_option maxRecDepth 100000 in
theorem vN_lt {ls : List Nat} {l c : Nat} (h0 : 0 < l) (hl : ∀ a, a < l → gN ls a < 8) : ∀ k, vN ls l c k < 10 ^ k
  | 0 => Nat.zero_lt_one
  | k + 1 => by
    have h1 := vN_lt h0 hl (c := c) k
    have h2 := hl (c / l ^ k % l) (Nat.mod_lt _ h0)
    unfold vN
    have h3 : 10 ^ k * (gN ls (c / l ^ k % l) + 1) ≤ 10 ^ k * 8 := Nat.mul_le_mul_left _ (by omega)
    have h4 : 10 ^ (k + 1) = 10 ^ k * 10 := Nat.pow_succ _ _
    omega
set_option maxRecDepth 100000 in
theorem vN_dg {ls : List Nat} {l c : Nat} (h0 : 0 < l) (hl : ∀ a, a < l → gN ls a < 8) : ∀ (n k : Nat), k < n → vN ls l c n / 10 ^ k % 10 = gN ls (c / l ^ k % l) + 1
  | 0, _, h => by omega
  | n + 1, k, h => by
    have p10 : 0 < 10 ^ k := Nat.pow_pos (by omega)
    unfold vN
    by_cases q : k = n
    · subst q
      have h1 := vN_lt h0 hl (c := c) k
      have h2 := hl (c / l ^ k % l) (Nat.mod_lt _ h0)
      rw [Nat.add_mul_div_left _ _ p10, Nat.div_eq_of_lt h1, Nat.zero_add, Nat.mod_eq_of_lt (by omega)]
    · obtain ⟨j, rfl⟩ : ∃ j, n = k + 1 + j := ⟨n - k - 1, by omega⟩
      rw [show 10 ^ (k + 1 + j) * (gN ls (c / l ^ (k + 1 + j) % l) + 1) = 10 ^ k * (10 * (10 ^ j * (gN ls (c / l ^ (k + 1 + j) % l) + 1))) from by rw [Nat.pow_add, Nat.pow_add, Nat.mul_assoc, Nat.mul_assoc, Nat.pow_one]]
      rw [Nat.add_mul_div_left _ _ p10, Nat.add_mul_mod_self_left]
      exact vN_dg h0 hl (k + 1 + j) k (by omega)
set_option maxRecDepth 100000 in
theorem gN_dgs (l c : Nat) : ∀ (n j : Nat), j < n → gN (dgs l c n) j = c / l ^ (n - 1 - j) % l
  | 0, _, h => by omega
  | n + 1, 0, _ => by
    unfold dgs gN
    simp
  | n + 1, j + 1, h => by
    have := gN_dgs l c n j (by omega)
    unfold dgs
    rw [show n + 1 - 1 - (j + 1) = n - 1 - j by omega, ← this]
    unfold gN
    simp
set_option maxRecDepth 100000 in
theorem nI_mul (a b : Nat) : nI a * nI b = nI (a * b) := (Int32.ofNat_mul a b).symm
set_option maxRecDepth 100000 in
theorem num_v (ls : List Nat) (l c : Nat) : ∀ (k i a : Nat), i + k = l → pnumK (fun j => nI (gN ls (gN (dgs l c l) j))) k i (nI a) = nI (a * 10 ^ k + vN ls l c k)
  | 0, i, a, _ => by
    unfold pnumK vN
    rw [Nat.pow_zero, Nat.mul_one, Nat.add_zero]
  | k + 1, i, a, h => by
    unfold pnumK
    rw [show (10 : Int32) = nI 10 from rfl, nI_mul, nI_add, nI_1, num_v ls l c k (i + 1) _ (by omega), gN_dgs l c l i (by omega), show l - 1 - i = k by omega]
    congr 1
    rw [show vN ls l c (k + 1) = vN ls l c k + 10 ^ k * (gN ls (c / l ^ k % l) + 1) from rfl, show 10 ^ (k + 1) = 10 ^ k * 10 from Nat.pow_succ _ _]
    generalize 10 ^ k = X
    generalize gN ls (c / l ^ k % l) = x
    rw [Nat.mul_add X x 1, Nat.mul_one, Nat.mul_comm X x, Nat.add_mul, Nat.add_mul, Nat.one_mul, Nat.mul_comm X 10, ← Nat.mul_assoc a, Nat.mul_comm a 10]
    omega
set_option maxRecDepth 100000 in
theorem num_vN (ls : List Nat) (l c : Nat) : numJ ls (dgs l c l) l = nI (vN ls l c l) := by
  unfold numJ
  have := num_v ls l c l 0 0 (by omega)
  rw [Nat.zero_mul, Nat.zero_add] at this
  exact this
end M37
