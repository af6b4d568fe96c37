section M26
/-- a small number -/
def isT (c : Int) (x : Int32) : Prop := 0 ≤ x.toInt ∧ x.toInt ≤ c
set_option maxRecDepth 100000 in
theorem addT {x y : Int32} (h1 : -1000000000 ≤ x.toInt + y.toInt) (h2 : x.toInt + y.toInt ≤ 1000000000) : (x + y).toInt = x.toInt + y.toInt := by
  rw [Int32.toInt_add]
  exact Int.bmod_eq_of_le (by omega) (by omega)
set_option maxRecDepth 100000 in
theorem subT {x y : Int32} (h1 : -1000000000 ≤ x.toInt - y.toInt) (h2 : x.toInt - y.toInt ≤ 1000000000) : (x - y).toInt = x.toInt - y.toInt := by
  rw [Int32.toInt_sub]
  exact Int.bmod_eq_of_le (by omega) (by omega)
set_option maxRecDepth 100000 in
theorem nIt {n : Nat} (h : n < 2 ^ 31) : (nI n).toInt = n := Int32.toInt_ofNat_of_lt h
set_option maxRecDepth 100000 in
theorem isT_nI {c n : Nat} (h : n ≤ c) (hc : c < 2 ^ 31) : isT c (nI n) := by
  unfold isT
  rw [nIt (by omega)]
  omega
set_option maxRecDepth 100000 in
theorem isT.get {c : Int} {x : Int32} (h : isT c x) : ∃ n : Nat, (n : Int) ≤ c ∧ n < 2 ^ 31 ∧ x = nI n := by
  have h0 : ¬ x < 0 := by
    rw [Int32.lt_iff_toInt_lt]
    exact Int.not_lt.mpr h.1
  obtain ⟨j, hj, rfl⟩ := nI_of h0
  refine ⟨j, ?_, hj, rfl⟩
  have := h.2
  rwa [nIt hj] at this
set_option maxRecDepth 100000 in
theorem isT.add {a b : Int} {x y : Int32} (h1 : isT a x) (h2 : isT b y) (h : a + b ≤ 1000000000) : isT (a + b) (x + y) := by
  unfold isT at *
  rw [addT (by omega) (by omega)]
  omega
set_option maxRecDepth 100000 in
theorem isT.mono {a b : Int} {x : Int32} (h : isT a x) (hab : a ≤ b) : isT b x := ⟨h.1, Int.le_trans h.2 hab⟩
set_option maxRecDepth 100000 in
theorem isT.max {a : Int} {x y : Int32} (h1 : isT a x) (h2 : isT a y) : isT a (maxI x y) := by
  unfold maxI
  split
  · exact h2
  · exact h1
set_option maxRecDepth 100000 in
theorem ltT {x y : Int32} : x < y ↔ x.toInt < y.toInt := Int32.lt_iff_toInt_lt
set_option maxRecDepth 100000 in
theorem leT {x y : Int32} : x ≤ y ↔ x.toInt ≤ y.toInt := Int32.le_iff_toInt_le
set_option maxRecDepth 100000 in
theorem eqT {x y : Int32} : x = y ↔ x.toInt = y.toInt := Int32.toInt_inj.symm
def BK (c : Int) (K : Mem) : Prop := (∀ r, r < 8 → isT 9 (K 2 r)) ∧ ∀ m, m < 2 → isT c (K 5 m)
set_option maxRecDepth 100000 in
theorem abs_t : ∀ a, a < 9 → ∀ b, b < 9 → absI (nI a - nI b) = nI (if a < b then b - a else a - b) := by decide
set_option maxRecDepth 100000 in
theorem div2_t : ∀ j, j < 10 → (10 + nI j / 2).toInt = ((10 + j / 2 : Nat) : Int) ∧ (7 + nI j).toInt = ((7 + j : Nat) : Int) := by decide
set_option maxRecDepth 100000 in
theorem wk_t {k f : Int32} (h : isT 9 f) : isT 16 (workI k f) ∧ isT 8 (workI k f / 2) ∧ 3 ≤ (workI k f).toInt := by
  obtain ⟨j, hj, _, rfl⟩ := h.get
  have e : ∀ j, j < 10 → ((0 ≤ (7 + nI j).toInt ∧ (7 + nI j).toInt ≤ 16) ∧ (0 ≤ ((7 + nI j) / 2).toInt ∧ ((7 + nI j) / 2).toInt ≤ 8) ∧ 3 ≤ (7 + nI j).toInt) ∧ ((0 ≤ (10 + nI j / 2).toInt ∧ (10 + nI j / 2).toInt ≤ 16) ∧ (0 ≤ ((10 + nI j / 2) / 2).toInt ∧ ((10 + nI j / 2) / 2).toInt ≤ 8) ∧ 3 ≤ (10 + nI j / 2).toInt) := by decide
  have e := e j (by omega)
  unfold workI isT
  repeat' split
  all_goals first | exact e.1 | exact e.2 | decide
set_option maxRecDepth 100000 in
theorem BK.pass {c b : Int} {K : Mem} {m : Nat} {x : Int32} (h : BK c K) (hx : isT b x) (hb : 0 ≤ b) (h9 : c + b ≤ 1000000000) : BK (c + b) (passK K m x) := by
  refine ⟨fun r hr => ?_, fun i hi => ?_⟩
  · unfold passK
    rw [up_k (by omega)]
    exact h.1 r hr
  · unfold passK up
    by_cases q : i = m
    · rw [if_pos ⟨rfl, q⟩, ← q]
      exact (h.2 i hi).add hx h9
    · rw [if_neg (fun z => q z.2)]
      exact (h.2 i hi).mono (by omega)
set_option maxRecDepth 100000 in
theorem BK.u {c : Int} {K : Mem} {a j : Nat} {v : Int32} (h : BK c K) (ha : ¬ a = 2 ∧ ¬ a = 5) : BK c (up K a j v) := ⟨fun r hr => by
  rw [up_k (by omega)]
  exact h.1 r hr, fun i hi => by
  rw [up_k (by omega)]
  exact h.2 i hi⟩
set_option maxRecDepth 100000 in
theorem BK.mono {a b : Int} {K : Mem} (h : BK a K) (hab : a ≤ b) : BK b K := ⟨h.1, fun m hm => (h.2 m hm).mono hab⟩
set_option maxRecDepth 100000 in
theorem BK.walk {c : Int} {K : Mem} {m p : Nat} (h : BK c K) (hp : p < 9) (hl : isPl (K 3 m)) (h9 : c ≤ 100000000) : BK (c + 8) (walkK K m p) := by
  obtain ⟨a, ha, e⟩ := hl
  unfold walkK
  refine BK.u (h.pass (b := 8) ?_ (by omega) (by omega)) (by omega)
  rw [e, abs_t a ha p hp]
  exact isT_nI (c := 8) (by split <;> omega) (by omega)
set_option maxRecDepth 100000 in
theorem pl4_t : ∀ a, a < 9 → (2 * nI a + 4) = nI (2 * a + 4) := by decide
set_option maxRecDepth 100000 in
theorem BK.fetch {c : Int} {K : Mem} {m : Nat} (h : BK c K) (hl : isPl (K 3 m)) (h9 : c ≤ 100000000) : BK (c + 20) (fetchK K m) := by
  obtain ⟨a, ha, e⟩ := hl
  unfold fetchK
  refine BK.u (BK.u (h.pass (b := 20) ?_ (by omega) (by omega)) (by omega)) (by omega)
  rw [e, pl4_t a ha]
  exact isT_nI (c := 20) (by omega) (by omega)
set_option maxRecDepth 100000 in
theorem BK.clean {c : Int} {K : Mem} {m r : Nat} {w : Int32} (h : BK c K) (hw : isT 16 w) (h9 : c ≤ 100000000) : BK (c + 16) (cleanK K m r w) := by
  unfold cleanK
  exact BK.u (BK.u (h.pass hw (by omega) (by omega)) (by omega)) (by omega)
set_option maxRecDepth 100000 in
theorem one_t : isT 1 1 := by unfold isT; decide
set_option maxRecDepth 100000 in
theorem BK.knock {c : Int} {K : Mem} {m r n : Nat} {w : Int32} (h : BK c K) (g : Gd K n) (hm : m < 2) (hw : isT 16 w) (h9 : c ≤ 10000000) : BK (c + 37) (knockK K m r w).2 := by
  have h1 := h.pass (m := m) one_t (by omega) (by omega)
  have g1 : Gd (passK K m 1) n := g.pass
  unfold knockK
  dsimp only
  repeat' split
  · exact ((h1.fetch (g1.pl hm) (by omega)).clean hw (by omega)).mono (by omega)
  · exact (h1.fetch (g1.pl hm) (by omega)).mono (by omega)
  · exact (h1.clean hw (by omega)).mono (by omega)
  · exact h1.mono (by omega)
  · exact h.mono (by omega)
set_option maxRecDepth 100000 in
theorem BK.visit {c : Int} {K : Mem} {m r n : Nat} (h : BK c K) (g : Gd K n) (hm : m < 2) (hr : r < n) (h9 : c ≤ 1000000) : BK (c + 64) (visitK K m r).2 := by
  have h8 := g.2.1
  have h1 := h.walk (m := m) (p := r + 1) (by omega) (g.pl hm) (by omega)
  unfold visitK
  exact (h1.knock (g.walk (by omega)) hm (wk_t (h1.1 r (by omega))).1 (by omega)).mono (by omega)
set_option maxRecDepth 100000 in
theorem BK.both {c : Int} {K : Mem} {r n : Nat} (h : BK c K) (g : Gd K n) (hr : r < n) (h9 : c ≤ 1000000) : BK (c + 64) (bothK K r).2 := by
  have h8 := g.2.1
  have g1 := g.walk (m := 0) (p := r + 1) (by omega)
  have h1 := h.walk (m := 0) (p := r + 1) (by omega) (g.pl (by omega)) (by omega)
  have h2 := h1.walk (m := 1) (p := r + 1) (by omega) (g1.pl (by omega)) (by omega)
  have g2 := g1.walk (m := 1) (p := r + 1) (by omega)
  unfold bothK
  dsimp only
  generalize walkK (walkK K 0 (r + 1)) 1 (r + 1) = K2 at h2 g2 ⊢
  have h3 : BK (c + 16) (up K2 5 0 (laterK K2)) := ⟨fun j hj => by
    rw [up_k (by omega)]
    exact h2.1 j hj, fun i hi => by
    by_cases q : i = 0
    · rw [q, up_at]
      exact ((h2.2 0 (by omega)).max (h2.2 1 (by omega))).mono (by omega)
    · rw [up_j q]
      exact (h2.2 i hi).mono (by omega)⟩
  have g3 : Gd (up K2 5 0 (laterK K2)) n := g2.u (by omega)
  generalize up K2 5 0 (laterK K2) = K3 at h3 g3 ⊢
  have w := (wk_t (k := K3 1 r) (h3.1 r (by omega))).2.1
  have h4 := h3.knock (r := r) (w := workK K3 r / 2 + 1) g3 (show 0 < 2 by omega) ((w.add one_t (by omega)).mono (by omega)) (by omega)
  generalize (knockK K3 0 r (workK K3 r / 2 + 1)).2 = K4 at h4 ⊢
  exact ⟨fun j hj => by
    rw [up_k (by omega)]
    exact h4.1 j hj, fun i hi => by
    by_cases q : i = 1
    · rw [q, up_at]
      exact (h4.2 0 (by omega)).mono (by omega)
    · rw [up_j q]
      exact (h4.2 i hi).mono (by omega)⟩
set_option maxRecDepth 100000 in
theorem BK.lng {m n : Nat} (hm : m < 2) : ∀ {k i : Nat} {K : Mem} {c : Int}, i + k = n → Gd K n → BK c K → c + 64 * k ≤ 1000000 → BK (c + 64 * k) (lngK m k i K)
  | 0, _, _, _, _, _, h, _ => by unfold lngK; exact h.mono (by omega)
  | k + 1, i, K, c, hi, g, h, h9 => by
    unfold lngK
    exact (BK.lng hm (k := k) (i := i + 1) (by omega) (g.visit (by omega)) (h.visit g hm (by omega) (by omega)) (by omega)).mono (by omega)
set_option maxRecDepth 100000 in
theorem BK.long {m n : Nat} {K : Mem} {c : Int} (hm : m < 2) (g : Gd K n) (h : BK c K) (h9 : c ≤ 10000) : BK (c + 512) (longK m n K) := by
  have h8 := g.2.1
  rw [longK_lng g.2.1]
  exact (BK.lng hm (k := n) (i := 0) (by omega) g h (by omega)).mono (by omega)
set_option maxRecDepth 100000 in
theorem BK.down {m n : Nat} {K : Mem} {c : Int} (hm : m < 2) (g : Gd K n) (h : BK c K) (h9 : c ≤ 10000) : BK (c + 10) (downK K m) := by
  have h1 := h.walk (m := m) (p := 0) (by omega) (g.pl hm) (by omega)
  unfold downK
  exact BK.u ((h1.pass (b := 2) (m := m) (by unfold isT; decide) (by omega) (by omega)).mono (by omega)) (by omega)
set_option maxRecDepth 100000 in
theorem Gd.down {m n : Nat} {K : Mem} (g : Gd K n) : Gd (downK K m) n := by
  unfold downK
  exact ((g.walk (m := m) (p := 0) (by omega)).pass).u (by omega)
end M26
