section M4
variable {C : Cst} {T : Nat → Pst → Nat → Lcs → List Value → Mem → Prop}
set_option maxRecDepth 100000 in
theorem and_x (a b c : Int32) : (a ^^^ b) &&& c = (a &&& c) ^^^ (b &&& c) := by
  apply Int32.toBitVec_inj.mp
  simp only [Int32.toBitVec_and, Int32.toBitVec_xor]
  apply BitVec.eq_of_getLsbD_eq
  intro i _
  simp only [BitVec.getLsbD_and, BitVec.getLsbD_xor]
  cases a.toBitVec.getLsbD i <;> cases b.toBitVec.getLsbD i <;> cases c.toBitVec.getLsbD i <;> rfl
set_option maxRecDepth 100000 in
theorem bt_pow : ∀ r, r < 8 → ∀ j, j < 8 → bt (1 <<< (nI r &&& 31)) j = if j = r then 1 else 0 := by decide +kernel
set_option maxRecDepth 100000 in
theorem bt_xor (x : Int32) {r j : Nat} (hr : r < 8) (hj : j < 8) : bt (x ^^^ (1 <<< (nI r &&& 31))) j = if j = r then 1 - bt x r else bt x j := by
  have e : bt (x ^^^ (1 <<< (nI r &&& 31))) j = bt x j ^^^ bt (1 <<< (nI r &&& 31)) j := by
    unfold bt
    rw [Int32.shiftRight_xor, and_x]
  rw [e, bt_pow r hr j hj]
  by_cases q : j = r
  · subst q
    rw [if_pos rfl, if_pos rfl]
    rcases bt_2 x j with g | g <;> rw [g] <;> decide
  · rw [if_neg q, if_neg q]
    rcases bt_2 x j with g | g <;> rw [g] <;> decide
set_option maxRecDepth 100000 in
theorem nI_x (a b : Nat) : nI a ^^^ nI b = nI (a ^^^ b) := by
  apply Int32.toBitVec_inj.mp
  exact BitVec.ofNat_xor.symm
set_option maxRecDepth 100000 in
theorem nI_pw : ∀ r, r < 8 → (1 <<< (nI r &&& 31) : Int32) = nI (2 ^ r) := by decide
set_option maxRecDepth 100000 in
theorem nI_xor (D : Nat) {r : Nat} (hr : r < 8) : nI D ^^^ (1 <<< (nI r &&& 31)) = nI (D ^^^ 2 ^ r) := by rw [nI_pw r hr, nI_x]
set_option maxRecDepth 100000 in
theorem apart_abs : ∀ p, p < 9 → ∀ q, q < 10 → (if nI p < nI q then nI q - nI p else nI p - nI q) = absI (nI p - nI q) := by decide
/-- a set of rooms -/
def isS (n : Nat) (x : Int32) : Prop := ∃ D, D < 2 ^ n ∧ x = nI D
def isPl (x : Int32) : Prop := ∃ p, p < 9 ∧ x = nI p
/-- a corridor of n rooms as both sides have it -/
def Gd (K : Mem) (n : Nat) : Prop := K 0 0 = nI n ∧ n ≤ 8 ∧ isS n (K 0 1) ∧ isS n (K 0 2) ∧ isPl (K 3 0) ∧ isPl (K 3 1)
set_option maxRecDepth 100000 in
theorem pow8 {n : Nat} (h : n ≤ 8) : 2 ^ n ≤ 256 := Nat.pow_le_pow_right (by omega) h
set_option maxRecDepth 100000 in
theorem isS.lt {n : Nat} {x : Int32} (h : isS n x) (hn : n ≤ 8) : ∃ D, D < 256 ∧ x = nI D := by
  obtain ⟨D, h1, h2⟩ := h
  exact ⟨D, Nat.lt_of_lt_of_le h1 (pow8 hn), h2⟩
set_option maxRecDepth 100000 in
theorem isS.xor {n r : Nat} {x : Int32} (h : isS n x) (hn : n ≤ 8) (hr : r < n) : isS n (x ^^^ (1 <<< (nI r &&& 31))) := by
  obtain ⟨D, h1, rfl⟩ := h
  refine ⟨D ^^^ 2 ^ r, Nat.xor_lt_two_pow h1 (Nat.pow_lt_pow_right (by omega) hr), nI_xor D (by omega)⟩
set_option maxRecDepth 100000 in
theorem Gd.pl {K : Mem} {n m : Nat} (g : Gd K n) (hm : m < 2) : isPl (K 3 m) := by
  rcases (show m = 0 ∨ m = 1 by omega) with rfl | rfl
  · exact g.2.2.2.2.1
  · exact g.2.2.2.2.2
/- what is not a place or a bit may change -/
set_option maxRecDepth 100000 in
theorem Gd.u {K : Mem} {n o j : Nat} {v : Int32} (g : Gd K n) (h : ¬ (o = 0 ∧ j < 3) ∧ ¬ o = 3) : Gd (up K o j v) n := by
  unfold Gd up at *
  rw [if_neg (by omega), if_neg (by omega), if_neg (by omega), if_neg (by omega), if_neg (by omega)]
  exact g
set_option maxRecDepth 100000 in
theorem Gd.p3 {K : Mem} {n j : Nat} {v : Int32} (g : Gd K n) (h : isPl v) : Gd (up K 3 j v) n := by
  obtain ⟨g1, g2, g3, g4, g5, g6⟩ := g
  refine ⟨by rw [up_k (by omega)]; exact g1, g2, by rw [up_k (by omega)]; exact g3, by rw [up_k (by omega)]; exact g4, ?_, ?_⟩ <;>
  · unfold up
    split
    · exact h
    · assumption
set_option maxRecDepth 100000 in
theorem Gd.pass {K : Mem} {n m : Nat} {x : Int32} (g : Gd K n) : Gd (passK K m x) n := g.u (by omega)
set_option maxRecDepth 100000 in
theorem Gd.walk {K : Mem} {n m p : Nat} (g : Gd K n) (hp : p < 9) : Gd (walkK K m p) n := g.pass.p3 ⟨p, hp, rfl⟩
set_option maxRecDepth 100000 in
theorem Gd.fetch {K : Mem} {n m : Nat} (g : Gd K n) : Gd (fetchK K m) n := (g.pass.u (by omega)).u (by omega)
set_option maxRecDepth 100000 in
theorem Gd.flip {K : Mem} {n r f : Nat} (g : Gd K n) (hf : f = 1 ∨ f = 2) (hr : r < n) : Gd (up K 0 f (K 0 f ^^^ (1 <<< (nI r &&& 31)))) n := by
  obtain ⟨g1, g2, g3, g4, g5, g6⟩ := g
  rcases hf with rfl | rfl
  · exact ⟨by rw [up_j (by omega)]; exact g1, g2, by rw [up_at]; exact g3.xor g2 hr, by rw [up_j (by omega)]; exact g4, by rw [up_k (by omega)]; exact g5, by rw [up_k (by omega)]; exact g6⟩
  · exact ⟨by rw [up_j (by omega)]; exact g1, g2, by rw [up_j (by omega)]; exact g3, by rw [up_at]; exact g4.xor g2 hr, by rw [up_k (by omega)]; exact g5, by rw [up_k (by omega)]; exact g6⟩
set_option maxRecDepth 100000 in
theorem Gd.clean {K : Mem} {n m r : Nat} {w : Int32} (g : Gd K n) (hr : r < n) : Gd (cleanK K m r w) n := (g.pass.u (by omega)).flip (Or.inl rfl) hr
set_option maxRecDepth 100000 in
theorem Gd.knock {K : Mem} {n m r : Nat} {w : Int32} (g : Gd K n) (hr : r < n) : Gd (knockK K m r w).2 n := by
  unfold knockK
  dsimp only
  repeat' split
  · exact g.pass.fetch.clean hr
  · exact g.pass.fetch
  · exact g.pass.clean hr
  · exact g.pass
  · exact g
set_option maxRecDepth 100000 in
theorem Gd.visit {K : Mem} {n m r : Nat} (g : Gd K n) (hr : r < n) : Gd (visitK K m r).2 n := (g.walk (by have := g.2.1; omega)).knock hr
set_option maxRecDepth 100000 in
theorem Gd.both {K : Mem} {n r : Nat} (g : Gd K n) (hr : r < n) : Gd (bothK K r).2 n := by
  have h8 := g.2.1
  unfold bothK
  dsimp only
  exact ((((g.walk (by omega)).walk (by omega)).u (by omega)).knock hr).u (by omega)
set_option maxRecDepth 100000 in
theorem mv25 (K : Mem) (d : Int32) (j : Nat) : mV K d 25 j = if j = 8 then K 0 0 else if j = 21 then K 0 3 else d + K 0 4 := if_pos (rfl : 25 = 25)
set_option maxRecDepth 100000 in
theorem mv27 (K : Mem) (d : Int32) (j : Nat) : mV K d 27 j = K 1 j := by
  unfold mV
  rw [if_neg (by omega), if_pos (rfl : 27 = 27)]
set_option maxRecDepth 100000 in
theorem mv28 (K : Mem) (d : Int32) (j : Nat) : mV K d 28 j = K 2 j := by
  unfold mV
  rw [if_neg (by omega), if_neg (by omega), if_pos (rfl : 28 = 28)]
set_option maxRecDepth 100000 in
theorem mv29 (K : Mem) (d : Int32) (j : Nat) : mV K d 29 j = bt (K 0 1) j := by
  unfold mV
  rw [if_neg (by omega), if_neg (by omega), if_neg (by omega), if_pos (rfl : 29 = 29)]
set_option maxRecDepth 100000 in
theorem mv30 (K : Mem) (d : Int32) (j : Nat) : mV K d 30 j = bt (K 0 2) j := by
  unfold mV
  rw [if_neg (by omega), if_neg (by omega), if_neg (by omega), if_neg (by omega), if_pos (rfl : 30 = 30)]
set_option maxRecDepth 100000 in
theorem mv31 (K : Mem) (d : Int32) {a : Nat} (j : Nat) (ha : 31 ≤ a) : mV K d a j = K (a - 28) j := by
  unfold mV
  rw [if_neg (by omega), if_neg (by omega), if_neg (by omega), if_neg (by omega), if_neg (by omega)]
set_option maxRecDepth 100000 in
theorem RepM.putD {S K : Mem} {d : Int32} (h : RepM S K d) : RepM (up S 25 22 (S 25 22 + 1)) (up K 0 4 (K 0 4 + 1)) d := h.put (fun b i hb => by
  rw [h.dn]
  unfold inM at hb
  rcases hb with ⟨rfl, hb⟩ | ⟨rfl | rfl | rfl | rfl, hb⟩ | ⟨hb, hj⟩
  · rw [mv25, mv25, up_j (by omega), up_j (by omega), up_at]
    rcases hb with rfl | rfl | rfl
    · rw [if_pos rfl, if_neg (by omega), if_pos rfl]
    · rw [if_neg (by omega), if_pos rfl, if_neg (by omega), if_neg (by omega), if_pos rfl]
    · rw [if_neg (by omega), if_neg (by omega), if_pos ⟨rfl, rfl⟩, Int32.add_assoc]
  · rw [mv27, mv27, if_neg (by omega), up_k (by omega)]
  · rw [mv28, mv28, if_neg (by omega), up_k (by omega)]
  · rw [mv29, mv29, if_neg (by omega), up_j (by omega)]
  · rw [mv30, mv30, if_neg (by omega), up_j (by omega)]
  · rw [mv31 _ _ _ (by omega), mv31 _ _ _ (by omega), if_neg (by omega), up_k (by omega)])
set_option maxRecDepth 100000 in
theorem RepM.putF {S K : Mem} {d : Int32} (h : RepM S K d) {r f : Nat} {x : Int32} (hf : f = 1 ∨ f = 2) (hr : r < 8) (hx : x = 1 - bt (K 0 f) r) : RepM (up S (28 + f) r x) (up K 0 f (K 0 f ^^^ (1 <<< (nI r &&& 31)))) d := h.put (fun b i hb => by
  have key : ∀ j, j < 8 → bt (K 0 f ^^^ (1 <<< (nI r &&& 31))) j = if j = r then 1 - bt (K 0 f) r else bt (K 0 f) j := fun j hj => bt_xor _ hr hj
  unfold inM at hb
  rcases hb with ⟨rfl, hb⟩ | ⟨rfl | rfl | rfl | rfl, hb⟩ | ⟨hb, hj⟩
  · rw [mv25, mv25, up_j (by omega), up_j (by omega), up_j (by omega), if_neg (show ¬ (25 = 28 + f ∧ i = r) by omega)]
  · rw [mv27, mv27, if_neg (by omega), up_k (by omega)]
  · rw [mv28, mv28, if_neg (by omega), up_k (by omega)]
  · rw [mv29, mv29]
    rcases hf with rfl | rfl
    · rw [up_at, key i hb, hx]
      by_cases q : i = r
      · rw [if_pos q, if_pos ⟨rfl, q⟩]
      · rw [if_neg q, if_neg (fun z => q z.2)]
    · rw [if_neg (by omega), up_j (by omega)]
  · rw [mv30, mv30]
    rcases hf with rfl | rfl
    · rw [if_neg (by omega), up_j (by omega)]
    · rw [up_at, key i hb, hx]
      by_cases q : i = r
      · rw [if_pos q, if_pos ⟨rfl, q⟩]
      · rw [if_neg q, if_neg (fun z => q z.2)]
  · rw [mv31 _ _ _ (by omega), mv31 _ _ _ (by omega), if_neg (by omega), up_k (by omega)])
set_option maxRecDepth 100000 in
theorem X5_stepsTo (H : Rules C T) {S K : Mem} {d : Int32} (R : RepM S K d) {m r : Nat} (hm : m < 2) (hr : r < 8) (hp : isPl (K 3 m)) {Q : Pst} (h1 : ∀ S', RepM S' (walkK K m (r + 1)) d → FrM S S' → Q none S') : C mX5_stepsTo [.ref 25, .int (nI m), .int (nI r)] S Q := by
  have key : Q none (up (up S 33 (nI m).toNatClampNeg (S 33 (nI m).toNatClampNeg + absI (K 3 m - nI (r + 1)))) 31 (nI m).toNatClampNeg (nI r + 1)) := by
    rw [nIc (by omega), nI_1, R.ck hm]
    exact h1 _ ((R.put3 (o := 5) (by omega) (by omega)).put3 (o := 3) (by omega) (by omega)) ((FrM.put (by unfold inM; omega)).tr (FrM.put (by unfold inM; omega)))
  obtain ⟨p, hp9, ep⟩ := hp
  have e31 : S 31 (nI m).toNatClampNeg = K 3 m := by rw [nIc (by omega)]; exact R.at hm
  refine Rules.go H (by decide) (Nat.le_of_ble_eq_true rfl) ?_
  repeat' (first | (refine Rules.st H okX5_stepsTo [] ?_; conv => whnf) | refine br_t (by first | decide | assumption) ?_ | refine br_f (by first | decide | assumption) ?_ | refine br_c (fun _ => ?_) (fun _ => ?_) | refine ⟨by decide, ?_⟩ | refine ⟨by first | assumption | (unfold vp_in; decide) | ((with_reducible (refine vp_in_nI ?_ ?_)) <;> omega), ?_⟩ | fail)
  rw [e31, nI_1]
  refine X5_apart H ?_
  rw [ep, apart_abs p hp9 (r + 1) (by omega), ← ep]
  repeat' (first | (refine Rules.st H okX5_stepsTo [] ?_; conv => whnf) | refine br_t (by first | decide | assumption) ?_ | refine br_f (by first | decide | assumption) ?_ | refine br_c (fun _ => ?_) (fun _ => ?_) | refine ⟨by decide, ?_⟩ | refine ⟨by first | assumption | (unfold vp_in; decide) | ((with_reducible (refine vp_in_nI ?_ ?_)) <;> omega), ?_⟩ | fail)
  exact key
end M4
