section X13
variable {C : Cst} {T : Nat → Pst → Nat → Lcs → List Value → Mem → Prop}
/-! ## order -/
def listS (set : Int32) (n : Nat) : List Nat := (List.range n).filter (fun r => !decide (bt set r = 0))
set_option maxRecDepth 100000 in
theorem listS_succ (set : Int32) (n : Nat) : listS set (n + 1) = listS set n ++ (if bt set n = 0 then [] else [n]) := by
  unfold listS
  rw [List.range_succ, List.filter_append]
  congr 1
  by_cases h : bt set n = 0 <;> simp [h]
set_option maxRecDepth 100000 in
theorem listS_mono (set : Int32) : ∀ (k i : Nat), (listS set i).length ≤ (listS set (i + k)).length
  | 0, i => Nat.le_refl _
  | k + 1, i => by
    have := listS_mono set k i
    rw [show i + (k + 1) = (i + k) + 1 by omega, listS_succ, List.length_append]
    omega
set_option maxRecDepth 100000 in
theorem listS_lt {set : Int32} {n : Nat} : ∀ r ∈ listS set n, r < n := fun r h => List.mem_range.mp (List.mem_filter.mp h).1
set_option maxRecDepth 100000 in
theorem gN_mem {s : List Nat} {j : Nat} (h : j < s.length) : gN s j ∈ s := by
  unfold gN
  rw [List.getD_eq_getElem?_getD, List.getElem?_eq_getElem h]
  exact List.getElem_mem h
set_option maxRecDepth 100000 in
theorem listS_inc (set : Int32) : ∀ (n a b : Nat), a < b → b < (listS set n).length → gN (listS set n) a < gN (listS set n) b
  | 0, a, b, _, hb => by simp [listS] at hb
  | n + 1, a, b, hab, hb => by
    rw [listS_succ] at hb ⊢
    by_cases h : bt set n = 0
    · rw [if_pos h, List.append_nil] at hb ⊢
      exact listS_inc set n a b hab hb
    · rw [if_neg h] at hb ⊢
      rw [List.length_append] at hb
      have ea : gN (listS set n ++ [n]) a = gN (listS set n) a := by
        unfold gN
        rw [List.getD_eq_getElem?_getD, List.getD_eq_getElem?_getD, List.getElem?_append_left (by simp at hb; omega)]
      rw [ea]
      by_cases hb2 : b < (listS set n).length
      · have eb : gN (listS set n ++ [n]) b = gN (listS set n) b := by
          unfold gN
          rw [List.getD_eq_getElem?_getD, List.getD_eq_getElem?_getD, List.getElem?_append_left hb2]
        rw [eb]
        exact listS_inc set n a b hab hb2
      · have hb3 : b = (listS set n).length := by simp at hb; omega
        have eb : gN (listS set n ++ [n]) b = n := by
          unfold gN
          rw [List.getD_eq_getElem?_getD, List.getElem?_append_right (by omega), hb3]
          simp
        rw [eb]
        exact listS_lt _ (gN_mem (by omega))
set_option maxRecDepth 100000 in
theorem gN_range {l j : Nat} (h : j < l) : gN (List.range l) j = j := by
  unfold gN
  rw [List.getD_eq_getElem?_getD, List.getElem?_range h]; rfl
set_option maxRecDepth 100000 in
theorem okL_listS {set : Int32} {n : Nat} (hn8 : n ≤ 8) (h5 : (listS set n).length ≤ 5) : okL (listS set n) (List.range (listS set n).length) (listS set n).length := by
  refine ⟨h5, by simp, fun j hj => by rw [gN_range hj]; exact hj, listS_inc set n, fun a ha => ?_⟩
  have := listS_lt _ (gN_mem (s := listS set n) ha)
  omega
set_option maxRecDepth 100000 in
theorem fI_lt {s : List Nat} : ∀ {k i : Nat}, fI s k = some i → i < k
  | 0, i, h => by cases h
  | k + 1, i, h => by
    rw [show fI s (k + 1) = if gN s (k + 1) < gN s k then fI s k else some k from rfl] at h
    split at h
    · have := fI_lt h; omega
    · cases h; omega
set_option maxRecDepth 100000 in
theorem fJ_le {s : List Nat} {i : Nat} : ∀ (j : Nat), fJ s i j ≤ j
  | 0 => Nat.le_refl _
  | j + 1 => by
    rw [show fJ s i (j + 1) = if i < j + 1 ∧ gN s (j + 1) < gN s i then fJ s i j else j + 1 from rfl]
    split
    · have := fJ_le (s := s) (i := i) j; omega
    · omega
set_option maxRecDepth 100000 in
theorem okL.rv {ls : List Nat} {l : Nat} : ∀ (f : Nat) {s : List Nat} {a b : Nat}, okL ls s l → b < l → okL ls (rvL f s a b) l
  | 0, s, a, b, h, hb => h
  | f + 1, s, a, b, h, hb => by
    unfold rvL
    split
    · exact okL.rv f (h.sw (by omega) hb) (by omega)
    · exact h
set_option maxRecDepth 100000 in
theorem okL.np {ls s s' : List Nat} {l : Nat} (h : okL ls s l) (e : npL s = some s') : okL ls s' l := by
  unfold npL at e
  rw [h.2.1] at e
  cases hf : fI s (l - 1) with
  | none => rw [hf] at e; cases e
  | some i =>
    rw [hf] at e
    cases e
    have hi := fI_lt hf
    have hj := fJ_le (s := s) (i := i) (l - 1)
    exact (h.sw (by omega) (by omega)).rv 5 (by omega)
def visJ (m : Nat) (ls s : List Nat) : Nat → Nat → Mem → Mem
  | 0, _, K => K
  | k + 1, j, K => visJ m ls s k (j + 1) (visitK K m (gN ls (gN s j))).2
def numJ (ls s : List Nat) (l : Nat) : Int32 := pnumK (fun j => nI (gN ls (gN s j))) l 0 0
set_option maxRecDepth 100000 in
theorem pnumK_congr {p p' : Nat → Int32} : ∀ (k i : Nat) (a : Int32), (∀ j, j < i + k → p j = p' j) → pnumK p k i a = pnumK p' k i a
  | 0, _, _, _ => rfl
  | k + 1, i, a, h => by
    unfold pnumK
    rw [h i (by omega)]
    exact pnumK_congr k (i + 1) _ (fun j hj => h j (by omega))
def ordB (K : Mem) (m : Nat) (ls s : List Nat) (l : Nat) (b : Bst) : Bst := offB b (numJ ls s l) (pcI (visJ m ls s l 0 K 0 1)) (visJ m ls s l 0 K 5 m - K 5 m)
def seqK (K : Mem) (m : Nat) (ls : List Nat) (l : Nat) : Nat → List Nat → Bst → Bst
  | 0, _, b => b
  | f + 1, s, b => match npL s with
    | none => ordB K m ls s l b
    | some s' => seqK K m ls l f s' (ordB K m ls s l b)
set_option maxRecDepth 100000 in
theorem X4_seek_1 (H : Rules C T) {K : Mem} {n m l : Nat} {set : Int32} {Q : Pst} {S0 : Mem} (X0 : XK S0 K n) (h5 : (listS set n).length ≤ 5) : ∀ (k i : Nat) (S : Mem) (x y : Option Value), i + k = n → (∀ j, j < (listS set i).length → S 23 j = nI (gN (listS set i) j)) → Fr 23 23 S0 S → (∀ S', (∀ j, j < (listS set n).length → S' 23 j = nI (gN (listS set n) j)) → Fr 23 23 S0 S' → T mX4_seekOrder Q 5 [some (.ref 0), some (.int (nI m)), some (.int set), some (.int (nI (listS set n).length)), some (.int (nI n)), x, y] [] S') → T mX4_seekOrder Q 5 [some (.ref 0), some (.int (nI m)), some (.int set), some (.int (nI (listS set i).length)), some (.int (nI i)), x, y] [] S := by
  obtain ⟨R0, hn, hn8, hz⟩ := X0
  intro k
  induction k with
  | zero =>
    intro i S x y hi hp F h1
    rw [show i = n by omega] at hp ⊢
    exact h1 S hp F
  | succ k ih =>
    intro i S x y hi hp F h1
    have hge : ¬ nI n ≤ nI i := nI_ge (by omega) (by omega)
    have hm1 := listS_mono set (n - (i + 1)) (i + 1)
    rw [show i + 1 + (n - (i + 1)) = n by omega] at hm1
    by_cases hb : bt set i = 0
    · have e : listS set (i + 1) = listS set i := by rw [listS_succ, if_pos hb, List.append_nil]
      have hb' : (set >>> (nI i &&& 31)) &&& 1 = 0 := hb
      skip
      repeat' (first | (refine Rules.st H okX4_seekOrder [5] ?_; conv => whnf) | refine br_t (by first | decide | assumption) ?_ | refine br_f (by first | decide | assumption) ?_ | refine br_c (fun _ => ?_) (fun _ => ?_) | refine ⟨by decide, ?_⟩ | refine ⟨by first | assumption | (unfold vp_in; decide) | ((with_reducible (refine vp_in_nI ?_ ?_)) <;> omega), ?_⟩ | fail)
      refine X1_rooms H (Or.inl rfl) (R0.fr F (by omega)) ?_
      rw [hn]
      repeat' (first | (refine Rules.st H okX4_seekOrder [5] ?_; conv => whnf) | refine br_t (by first | decide | assumption) ?_ | refine br_f (by first | decide | assumption) ?_ | refine br_c (fun _ => ?_) (fun _ => ?_) | refine ⟨by decide, ?_⟩ | refine ⟨by first | assumption | (unfold vp_in; decide) | ((with_reducible (refine vp_in_nI ?_ ?_)) <;> omega), ?_⟩ | fail)
      refine Halt.mk ?_
      show T mX4_seekOrder Q 5 [some (.ref 0), some (.int (nI m)), some (.int set), some (.int (nI (listS set i).length)), some (.int (nI i + 1)), x, y] [] S
      rw [nI_1, ← e]
      exact ih (i + 1) S x y (by omega) (by rw [e]; exact hp) F h1
    · have e : listS set (i + 1) = listS set i ++ [i] := by rw [listS_succ, if_neg hb]
      have hb' : ¬ (set >>> (nI i &&& 31)) &&& 1 = 0 := hb
      have hlen : (listS set (i + 1)).length = (listS set i).length + 1 := by rw [e, List.length_append]; rfl
      have c1 : ¬ Int32.ofNat 5 ≤ nI (listS set i).length := nI_ge (by omega) (by omega)
      have c2 : (listS set i).length < 5 := by omega
      skip
      repeat' (first | (refine Rules.st H okX4_seekOrder [5] ?_; conv => whnf) | refine br_t (by first | decide | assumption) ?_ | refine br_f (by first | decide | assumption) ?_ | refine br_c (fun _ => ?_) (fun _ => ?_) | refine ⟨by decide, ?_⟩ | refine ⟨by first | assumption | (unfold vp_in; decide) | ((with_reducible (refine vp_in_nI ?_ ?_)) <;> omega), ?_⟩ | fail)
      refine X1_rooms H (Or.inl rfl) (R0.fr F (by omega)) ?_
      rw [hn]
      repeat' (first | (refine Rules.st H okX4_seekOrder [5] ?_; conv => whnf) | refine br_t (by first | decide | assumption) ?_ | refine br_f (by first | decide | assumption) ?_ | refine br_c (fun _ => ?_) (fun _ => ?_) | refine ⟨by decide, ?_⟩ | refine ⟨by first | assumption | (unfold vp_in; decide) | ((with_reducible (refine vp_in_nI ?_ ?_)) <;> omega), ?_⟩ | fail)
      refine Halt.mk ?_
      rw [nIc (show (listS set i).length < 2 ^ 31 by omega)]
      show T mX4_seekOrder Q 5 [some (.ref 0), some (.int (nI m)), some (.int set), some (.int (nI (listS set i).length + 1)), some (.int (nI i + 1)), x, y] [] _
      rw [nI_1, nI_1, ← hlen]
      refine ih (i + 1) _ x y (by omega) (fun j hj => ?_) (F.tr (Fr.put (by omega) (by omega))) h1
      rw [e]
      unfold gN
      rw [List.getD_eq_getElem?_getD]
      by_cases hj2 : j = (listS set i).length
      · rw [hj2, up_at, List.getElem?_append_right (by omega)]
        simp
      · rw [up_j hj2, List.getElem?_append_left (by omega), ← List.getD_eq_getElem?_getD]
        exact hp j (by omega)
set_option maxRecDepth 100000 in
theorem X4_seek_3 (H : Rules C T) {n m l : Nat} (hn8 : n ≤ 8) (hm : m < 2) {ls s : List Nat} (hk : okL ls s l) {set x4 x5 : Int32} {Q : Pst} {S0 : Mem} (RP : RepP S0 ls s) : ∀ (k j : Nat) (S K : Mem), j + k = l → Fr 7 12 S0 S → RepC 7 S K → (∀ S', Fr 7 12 S0 S' → RepC 7 S' (visJ m ls s k j K) → T mX4_seekOrder Q 84 [some (.ref 0), some (.int (nI m)), some (.int set), some (.int (nI l)), some (.int x4), some (.int x5), some (.int (nI l))] [] S') → T mX4_seekOrder Q 84 [some (.ref 0), some (.int (nI m)), some (.int set), some (.int (nI l)), some (.int x4), some (.int x5), some (.int (nI j))] [] S := by
  have hl5 := hk.1
  intro k
  induction k with
  | zero =>
    intro j S K hj F R h1
    rw [show j = l by omega]
    exact h1 S F R
  | succ k ih =>
    intro j S K hj F R h1
    have hge : ¬ nI l ≤ nI j := nI_ge (by omega) (by omega)
    unfold visJ at h1
    skip
    repeat' (first | (refine Rules.st H okX4_seekOrder [84] ?_; conv => whnf) | refine br_t (by first | decide | assumption) ?_ | refine br_f (by first | decide | assumption) ?_ | refine br_c (fun _ => ?_) (fun _ => ?_) | refine ⟨by decide, ?_⟩ | refine ⟨by first | assumption | (unfold vp_in; decide) | ((with_reducible (refine vp_in_nI ?_ ?_)) <;> omega), ?_⟩ | fail)
    refine X4_pathAt H (by omega) ?_
    rw [F 23 j (by omega), RP j (by rw [hk.2.1]; omega)]
    repeat' (first | (refine Rules.st H okX4_seekOrder [84] ?_; conv => whnf) | refine br_t (by first | decide | assumption) ?_ | refine br_f (by first | decide | assumption) ?_ | refine br_c (fun _ => ?_) (fun _ => ?_) | refine ⟨by decide, ?_⟩ | refine ⟨by first | assumption | (unfold vp_in; decide) | ((with_reducible (refine vp_in_nI ?_ ?_)) <;> omega), ?_⟩ | fail)
    refine X1_visitBy H (Or.inr (Or.inl rfl)) R hm (hk.2.2.2.2 _ (hk.2.2.1 j (by omega))) (fun S1 R1 F1 => ?_)
    repeat' (first | (refine Rules.st H okX4_seekOrder [84] ?_; conv => whnf) | refine br_t (by first | decide | assumption) ?_ | refine br_f (by first | decide | assumption) ?_ | refine br_c (fun _ => ?_) (fun _ => ?_) | refine ⟨by decide, ?_⟩ | refine ⟨by first | assumption | (unfold vp_in; decide) | ((with_reducible (refine vp_in_nI ?_ ?_)) <;> omega), ?_⟩ | fail)
    refine Halt.mk ?_
    show T mX4_seekOrder Q 84 [some (.ref 0), some (.int (nI m)), some (.int set), some (.int (nI l)), some (.int x4), some (.int x5), some (.int (nI j + 1))] [] _
    rw [nI_1]
    exact ih (j + 1) S1 _ (by omega) (F.tr F1) R1 h1
set_option maxRecDepth 100000 in
theorem visJ_n (m : Nat) (ls s : List Nat) : ∀ (k j : Nat) (K : Mem), visJ m ls s k j K 0 0 = K 0 0
  | 0, _, _ => rfl
  | k + 1, j, K => by
    unfold visJ
    rw [visJ_n, visitK_n]
set_option maxRecDepth 100000 in
theorem X4_seek_2 (H : Rules C T) {K : Mem} {n m l : Nat} (hm : m < 2) {ls : List Nat} {set : Int32} {Q : Pst} {S0 : Mem} : ∀ (f i : Nat) (s : List Nat) (b : Bst) (S : Mem) (x : Option Value), i + f = 120 → 0 < f → okL ls s l → RepP S ls s → XK S K n → RepB S b → ScX 0 S0 S → (∀ S', ScX 0 S0 S' → RepB S' (seqK K m ls l f s b) → Q none S') → T mX4_seekOrder Q 65 [some (.ref 0), some (.int (nI m)), some (.int set), some (.int (nI l)), some (.int 1), some (.int (nI i)), x] [] S := by
  intro f
  induction f with
  | zero => intro i s b S x hi hf; omega
  | succ f ih =>
    intro i s b S x hi hf hk RP X B hs h1
    have hl5 := hk.1
    obtain ⟨R, hn, hn8, hz⟩ := X
    have hge : ¬ (120 : Int32) ≤ nI i := nI_ge (b := 120) (by omega) (by omega)
    unfold seqK at h1
    skip
    repeat' (first | (refine Rules.st H okX4_seekOrder [84] ?_; conv => whnf) | refine br_t (by first | decide | assumption) ?_ | refine br_f (by first | decide | assumption) ?_ | refine br_c (fun _ => ?_) (fun _ => ?_) | refine ⟨by decide, ?_⟩ | refine ⟨by first | assumption | (unfold vp_in; decide) | ((with_reducible (refine vp_in_nI ?_ ?_)) <;> omega), ?_⟩ | fail)
    refine X4_think H R hz (fun S1 R1 F1 => ?_)
    repeat' (first | (refine Rules.st H okX4_seekOrder [84] ?_; conv => whnf) | refine br_t (by first | decide | assumption) ?_ | refine br_f (by first | decide | assumption) ?_ | refine br_c (fun _ => ?_) (fun _ => ?_) | refine ⟨by decide, ?_⟩ | refine ⟨by first | assumption | (unfold vp_in; decide) | ((with_reducible (refine vp_in_nI ?_ ?_)) <;> omega), ?_⟩ | fail)
    refine Halt.mk ?_
    refine X4_seek_3 H hn8 hm hk (S0 := S) RP l 0 S1 K (by omega) F1 R1 (fun S2 F2 R2 => ?_)
    have hge2 : nI l ≤ nI l := nI_le (by omega) (by omega)
    have e23 : ∀ j, S2 23 j = S 23 j := fun j => F2 23 j (by omega)
    skip
    repeat' (first | (refine Rules.st H okX4_seekOrder [65] ?_; conv => whnf) | refine br_t (by first | decide | assumption) ?_ | refine br_f (by first | decide | assumption) ?_ | refine br_c (fun _ => ?_) (fun _ => ?_) | refine ⟨by decide, ?_⟩ | refine ⟨by first | assumption | (unfold vp_in; decide) | ((with_reducible (refine vp_in_nI ?_ ?_)) <;> omega), ?_⟩ | fail)
    refine X4_pathNumber H (n := l) hl5 ?_
    rw [show pnumK (S2 23) l 0 0 = numJ ls s l from pnumK_congr l 0 0 (fun j hj => by rw [e23 j]; exact RP j (by rw [hk.2.1]; omega))]
    repeat' (first | (refine Rules.st H okX4_seekOrder [65] ?_; conv => whnf) | refine br_t (by first | decide | assumption) ?_ | refine br_f (by first | decide | assumption) ?_ | refine br_c (fun _ => ?_) (fun _ => ?_) | refine ⟨by decide, ?_⟩ | refine ⟨by first | assumption | (unfold vp_in; decide) | ((with_reducible (refine vp_in_nI ?_ ?_)) <;> omega), ?_⟩ | fail)
    refine X1_doneCount H (Or.inr (Or.inl rfl)) R2 ?_
    repeat' (first | (refine Rules.st H okX4_seekOrder [65] ?_; conv => whnf) | refine br_t (by first | decide | assumption) ?_ | refine br_f (by first | decide | assumption) ?_ | refine br_c (fun _ => ?_) (fun _ => ?_) | refine ⟨by decide, ?_⟩ | refine ⟨by first | assumption | (unfold vp_in; decide) | ((with_reducible (refine vp_in_nI ?_ ?_)) <;> omega), ?_⟩ | fail)
    have R02 : RepC 1 S2 K := R.fr F2 (by omega)
    refine X4_thoughtMinutes H R02 R2 hm ?_
    repeat' (first | (refine Rules.st H okX4_seekOrder [65] ?_; conv => whnf) | refine br_t (by first | decide | assumption) ?_ | refine br_f (by first | decide | assumption) ?_ | refine br_c (fun _ => ?_) (fun _ => ?_) | refine ⟨by decide, ?_⟩ | refine ⟨by first | assumption | (unfold vp_in; decide) | ((with_reducible (refine vp_in_nI ?_ ?_)) <;> omega), ?_⟩ | fail)
    refine X0_offer H (B.fr F2 (by omega)) (fun S3 B3 F3 => ?_)
    repeat' (first | (refine Rules.st H okX4_seekOrder [65] ?_; conv => whnf) | refine br_t (by first | decide | assumption) ?_ | refine br_f (by first | decide | assumption) ?_ | refine br_c (fun _ => ?_) (fun _ => ?_) | refine ⟨by decide, ?_⟩ | refine ⟨by first | assumption | (unfold vp_in; decide) | ((with_reducible (refine vp_in_nI ?_ ?_)) <;> omega), ?_⟩ | fail)
    have RP3 : RepP S3 ls s := RP.scr (fun j => by rw [F3 23 j (by omega)]; exact e23 j)
    have s3 : ScX 0 S0 S3 := (hs.tr (ScX.f7 F2)).tr (ScX.f24 F3)
    refine X4_nextPath H hk RP3 (fun e => ?_) (fun s' e S4 RP4 F4 => ?_)
    · rw [e] at h1
      have c0 : (0 : Int32) = 0 := rfl
      have fin := h1 S3 s3 B3
      by_cases h120 : (120 : Int32) ≤ nI i + 1
      · skip
        repeat' (first | (refine Rules.st H okX4_seekOrder [] ?_; conv => whnf) | refine br_t (by first | decide | assumption) ?_ | refine br_f (by first | decide | assumption) ?_ | refine br_c (fun _ => ?_) (fun _ => ?_) | refine ⟨by decide, ?_⟩ | refine ⟨by first | assumption | (unfold vp_in; decide) | ((with_reducible (refine vp_in_nI ?_ ?_)) <;> omega), ?_⟩ | fail)
        exact fin
      · skip
        repeat' (first | (refine Rules.st H okX4_seekOrder [] ?_; conv => whnf) | refine br_t (by first | decide | assumption) ?_ | refine br_f (by first | decide | assumption) ?_ | refine br_c (fun _ => ?_) (fun _ => ?_) | refine ⟨by decide, ?_⟩ | refine ⟨by first | assumption | (unfold vp_in; decide) | ((with_reducible (refine vp_in_nI ?_ ?_)) <;> omega), ?_⟩ | fail)
        exact fin
    · rw [e] at h1
      skip
      repeat' (first | (refine Rules.st H okX4_seekOrder [65] ?_; conv => whnf) | refine br_t (by first | decide | assumption) ?_ | refine br_f (by first | decide | assumption) ?_ | refine br_c (fun _ => ?_) (fun _ => ?_) | refine ⟨by decide, ?_⟩ | refine ⟨by first | assumption | (unfold vp_in; decide) | ((with_reducible (refine vp_in_nI ?_ ?_)) <;> omega), ?_⟩ | fail)
      refine Halt.mk ?_
      show T mX4_seekOrder Q 65 [some (.ref 0), some (.int (nI m)), some (.int set), some (.int (nI l)), some (.int 1), some (.int (nI i + 1)), some (.int (nI l))] [] _
      rw [nI_1]
      have B4 := B3.fr F4 (by omega)
      have s4 := s3.tr (ScX.f23 F4)
      by_cases hf0 : 0 < f
      · exact ih (i + 1) s' _ S4 _ (by omega) hf0 (hk.np e) RP4 ⟨(R02.fr F3 (by omega)).fr F4 (by omega), hn, hn8, hz⟩ B4 s4 h1
      · have : f = 0 := by omega
        subst this
        have hge3 : (120 : Int32) ≤ nI (i + 1) := nI_le (a := 120) (by omega) (by omega)
        skip
        repeat' (first | (refine Rules.st H okX4_seekOrder [] ?_; conv => whnf) | refine br_t (by first | decide | assumption) ?_ | refine br_f (by first | decide | assumption) ?_ | refine br_c (fun _ => ?_) (fun _ => ?_) | refine ⟨by decide, ?_⟩ | refine ⟨by first | assumption | (unfold vp_in; decide) | ((with_reducible (refine vp_in_nI ?_ ?_)) <;> omega), ?_⟩ | fail)
        exact h1 S4 s4 B4
set_option maxRecDepth 100000 in
theorem X4_seekOrder (H : Rules C T) {S K : Mem} {n m : Nat} (hm : m < 2) (X : XK S K n) {set : Int32} (h5 : (listS set n).length ≤ 5) {Q : Pst} (h1 : ∀ S', ScX 0 S S' → RepB S' (seqK K m (listS set n) (listS set n).length 120 (List.range (listS set n).length) none) → Q none S') : C mX4_seekOrder [.ref 0, .int (nI m), .int set] S Q := by
  have X0 := X
  obtain ⟨R, hn, hn8, hz⟩ := X
  refine Rules.go H (by decide) (Nat.le_of_ble_eq_true rfl) ?_
  repeat' (first | (refine Rules.st H okX4_seekOrder [5] ?_; conv => whnf) | refine br_t (by first | decide | assumption) ?_ | refine br_f (by first | decide | assumption) ?_ | refine br_c (fun _ => ?_) (fun _ => ?_) | refine ⟨by decide, ?_⟩ | refine ⟨by first | assumption | (unfold vp_in; decide) | ((with_reducible (refine vp_in_nI ?_ ?_)) <;> omega), ?_⟩ | fail)
  refine Halt.mk ?_
  show T mX4_seekOrder Q 5 [some (.ref 0), some (.int (nI m)), some (.int set), some (.int (nI (listS set 0).length)), some (.int (nI 0)), none, none] [] S
  refine X4_seek_1 H (l := 0) X0 h5 n 0 S none none (by omega) (fun j hj => by simp [listS] at hj) Fr.rf (fun S1 hp F1 => ?_)
  have hge : nI n ≤ nI n := nI_le (by omega) (by omega)
  skip
  repeat' (first | (refine Rules.st H okX4_seekOrder [65] ?_; conv => whnf) | refine br_t (by first | decide | assumption) ?_ | refine br_f (by first | decide | assumption) ?_ | refine br_c (fun _ => ?_) (fun _ => ?_) | refine ⟨by decide, ?_⟩ | refine ⟨by first | assumption | (unfold vp_in; decide) | ((with_reducible (refine vp_in_nI ?_ ?_)) <;> omega), ?_⟩ | fail)
  refine X1_rooms H (Or.inl rfl) (R.fr F1 (by omega)) ?_
  rw [hn]
  repeat' (first | (refine Rules.st H okX4_seekOrder [65] ?_; conv => whnf) | refine br_t (by first | decide | assumption) ?_ | refine br_f (by first | decide | assumption) ?_ | refine br_c (fun _ => ?_) (fun _ => ?_) | refine ⟨by decide, ?_⟩ | refine ⟨by first | assumption | (unfold vp_in; decide) | ((with_reducible (refine vp_in_nI ?_ ?_)) <;> omega), ?_⟩ | fail)
  refine X0_forget H (fun S2 B2 F2 => ?_)
  repeat' (first | (refine Rules.st H okX4_seekOrder [65] ?_; conv => whnf) | refine br_t (by first | decide | assumption) ?_ | refine br_f (by first | decide | assumption) ?_ | refine br_c (fun _ => ?_) (fun _ => ?_) | refine ⟨by decide, ?_⟩ | refine ⟨by first | assumption | (unfold vp_in; decide) | ((with_reducible (refine vp_in_nI ?_ ?_)) <;> omega), ?_⟩ | fail)
  refine Halt.mk ?_
  have hk := okL_listS (set := set) hn8 h5
  refine X4_seek_2 H (K := K) (n := n) hm (S0 := S) 120 0 (List.range (listS set n).length) none S2 none (by omega) (by omega) hk (fun j hj => ?_) ⟨(R.fr F1 (by omega)).fr F2 (by omega), hn, hn8, hz⟩ B2 ((ScX.f23 F1).tr (ScX.f24 F2)) h1
  have hj' : j < (listS set n).length := by simpa using hj
  rw [F2 23 j (by omega), gN_range hj']
  exact hp j hj'
set_option maxRecDepth 100000 in
theorem seqK_some (K : Mem) (m : Nat) (ls : List Nat) (l : Nat) : ∀ (f : Nat) (s : List Nat) (b : Bst), (0 < f ∨ ¬ b = none) → ¬ seqK K m ls l f s b = none
  | 0, s, b, h => by
    unfold seqK
    exact h.resolve_left (by omega)
  | f + 1, s, b, _ => by
    unfold seqK
    split
    · exact offB_some _ _ _ _
    · exact seqK_some K m ls l f _ _ (Or.inr (offB_some _ _ _ _))
set_option maxRecDepth 100000 in
theorem pcl5 : ∀ n, n ≤ 8 → ∀ x, x < 2 ^ n → (pcI (nI x) ≤ 5 ↔ (listS (nI x) n).length ≤ 5) := by decide +kernel
set_option maxRecDepth 100000 in
theorem shs : ∀ n, n ≤ 8 → ((nI n &&& 31).toBitVec.smod 32).toNat = n := by decide +kernel
set_option maxRecDepth 100000 in
theorem setF_lt (n : Nat) (hn : n ≤ 8) {x : Int32} (h : setF n x = 0) : ∃ i, i < 2 ^ n ∧ x = nI i := by
  unfold setF at h
  split at h
  · exact absurd h (by decide)
  · next h0 =>
    split at h
    · next h1 =>
      obtain ⟨j, hj, rfl⟩ := nI_of h0
      refine ⟨j, ?_, rfl⟩
      rw [pk_shrN hj _ n (shs n hn)] at h1
      have h2 := (nI_eq (a := j / 2 ^ n) (b := 0) (by have := Nat.div_le_self j (2 ^ n); omega) (by omega)).mp h1
      rcases Nat.div_eq_zero_iff.mp h2 with h3 | h3
      · exact absurd h3 (Nat.pos_iff_ne_zero.mp (Nat.pow_pos (by omega)))
      · exact h3
    · exact absurd h (by decide)
def F_order (K : Mem) (n : Nat) (m set w : Int32) : Ans :=
  if okM m then if setF n set = 0 then if 5 < pcI set then (3, -3) else if w < 0 ∨ 2 < w then (2, -2) else (0, bsA w (seqK K (ix m) (listS set n) (listS set n).length 120 (List.range (listS set n).length) none)) else (kOf (setF n set), setF n set) else (1, -1)
set_option maxRecDepth 100000 in
theorem X4_order (H : Rules C T) {S K : Mem} {n : Nat} (X : XK S K n) {m set w : Int32} {Q : Pst} (h1 : AnsX S (F_order K n m set w) Q) : C mX4_order [.ref 0, .int m, .int set, .int w] S Q := by
  have X0 := X
  obtain ⟨R, hn, hn8, hz⟩ := X
  unfold F_order at h1
  refine Rules.go H (by decide) (Nat.le_of_ble_eq_true rfl) ?_
  repeat' (first | (refine Rules.st H okX4_order [] ?_; conv => whnf) | refine br_t (by first | decide | assumption) ?_ | refine br_f (by first | decide | assumption) ?_ | refine br_c (fun _ => ?_) (fun _ => ?_) | refine ⟨by decide, ?_⟩ | refine ⟨by first | assumption | (unfold vp_in; decide) | ((with_reducible (refine vp_in_nI ?_ ?_)) <;> omega), ?_⟩ | fail)
  refine X1_hasMaid H (fun i hi e => ?_) (fun hno => ?_)
  · subst e
    rw [show ix (nI i) = i from nIc (by omega), if_pos (okM_nI hi)] at h1
    repeat' (first | (refine Rules.st H okX4_order [] ?_; conv => whnf) | refine br_t (by first | decide | assumption) ?_ | refine br_f (by first | decide | assumption) ?_ | refine br_c (fun _ => ?_) (fun _ => ?_) | refine ⟨by decide, ?_⟩ | refine ⟨by first | assumption | (unfold vp_in; decide) | ((with_reducible (refine vp_in_nI ?_ ?_)) <;> omega), ?_⟩ | fail)
    refine X4_setRefusal H R hn ?_
    repeat' (first | (refine Rules.st H okX4_order [] ?_; conv => whnf) | refine br_t (by first | decide | assumption) ?_ | refine br_f (by first | decide | assumption) ?_ | refine br_c (fun _ => ?_) (fun _ => ?_) | refine ⟨by decide, ?_⟩ | refine ⟨by first | assumption | (unfold vp_in; decide) | ((with_reducible (refine vp_in_nI ?_ ?_)) <;> omega), ?_⟩ | fail)
    · have g0 : setF n set = 0 := by assumption
      rw [if_pos g0] at h1
      refine J6_bitCount H ?_
      by_cases g1 : pcI set ≤ 5
      · rw [if_neg (Int32.not_lt.mpr g1)] at h1
        by_cases g2 : w < 0
        · rw [if_pos (Or.inl g2)] at h1
          repeat' (first | (refine Rules.st H okX4_order [] ?_; conv => whnf) | refine br_t (by first | decide | assumption) ?_ | refine br_f (by first | decide | assumption) ?_ | refine br_c (fun _ => ?_) (fun _ => ?_) | refine ⟨by decide, ?_⟩ | refine ⟨by first | assumption | (unfold vp_in; decide) | ((with_reducible (refine vp_in_nI ?_ ?_)) <;> omega), ?_⟩ | fail)
          refine X4_ref H ScX.rf (k := 2) (by omega) (by omega) (by decide) (fun S' hS' => ?_)
          repeat' (first | (refine Rules.st H okX4_order [] ?_; conv => whnf) | refine br_t (by first | decide | assumption) ?_ | refine br_f (by first | decide | assumption) ?_ | refine br_c (fun _ => ?_) (fun _ => ?_) | refine ⟨by decide, ?_⟩ | refine ⟨by first | assumption | (unfold vp_in; decide) | ((with_reducible (refine vp_in_nI ?_ ?_)) <;> omega), ?_⟩ | fail)
          exact h1 S' hS'
        · by_cases g3 : w ≤ 2
          · rw [if_neg (fun z => z.elim g2 (Int32.not_lt.mpr g3))] at h1
            repeat' (first | (refine Rules.st H okX4_order [] ?_; conv => whnf) | refine br_t (by first | decide | assumption) ?_ | refine br_f (by first | decide | assumption) ?_ | refine br_c (fun _ => ?_) (fun _ => ?_) | refine ⟨by decide, ?_⟩ | refine ⟨by first | assumption | (unfold vp_in; decide) | ((with_reducible (refine vp_in_nI ?_ ?_)) <;> omega), ?_⟩ | fail)
            have h5 : (listS set n).length ≤ 5 := by
              obtain ⟨x, hx, e⟩ := setF_lt n hn8 g0
              rw [e] at g1 ⊢
              exact (pcl5 n hn8 x hx).mp g1
            refine X4_seekOrder H hi X0 h5 (fun S1 s1 B1 => ?_)
            repeat' (first | (refine Rules.st H okX4_order [] ?_; conv => whnf) | refine br_t (by first | decide | assumption) ?_ | refine br_f (by first | decide | assumption) ?_ | refine br_c (fun _ => ?_) (fun _ => ?_) | refine ⟨by decide, ?_⟩ | refine ⟨by first | assumption | (unfold vp_in; decide) | ((with_reducible (refine vp_in_nI ?_ ?_)) <;> omega), ?_⟩ | fail)
            have h1 := h1 S1 s1
            have hs := seqK_some K i (listS set n) (listS set n).length 120 (List.range (listS set n).length) none (Or.inl (by omega))
            generalize seqK K i (listS set n) (listS set n).length 120 (List.range (listS set n).length) none = b at h1 hs B1
            cases b with
            | none => exact absurd rfl hs
            | some b =>
              obtain ⟨a, d, t⟩ := b
              refine X0_answer H B1 ?_
              repeat' (first | (refine Rules.st H okX4_order [] ?_; conv => whnf) | refine br_t (by first | decide | assumption) ?_ | refine br_f (by first | decide | assumption) ?_ | refine br_c (fun _ => ?_) (fun _ => ?_) | refine ⟨by decide, ?_⟩ | refine ⟨by first | assumption | (unfold vp_in; decide) | ((with_reducible (refine vp_in_nI ?_ ?_)) <;> omega), ?_⟩ | fail)
              exact h1
          · rw [if_pos (Or.inr (Int32.not_le.mp g3))] at h1
            repeat' (first | (refine Rules.st H okX4_order [] ?_; conv => whnf) | refine br_t (by first | decide | assumption) ?_ | refine br_f (by first | decide | assumption) ?_ | refine br_c (fun _ => ?_) (fun _ => ?_) | refine ⟨by decide, ?_⟩ | refine ⟨by first | assumption | (unfold vp_in; decide) | ((with_reducible (refine vp_in_nI ?_ ?_)) <;> omega), ?_⟩ | fail)
            refine X4_ref H ScX.rf (k := 2) (by omega) (by omega) (by decide) (fun S' hS' => ?_)
            repeat' (first | (refine Rules.st H okX4_order [] ?_; conv => whnf) | refine br_t (by first | decide | assumption) ?_ | refine br_f (by first | decide | assumption) ?_ | refine br_c (fun _ => ?_) (fun _ => ?_) | refine ⟨by decide, ?_⟩ | refine ⟨by first | assumption | (unfold vp_in; decide) | ((with_reducible (refine vp_in_nI ?_ ?_)) <;> omega), ?_⟩ | fail)
            exact h1 S' hS'
      · rw [if_pos (Int32.not_le.mp g1)] at h1
        repeat' (first | (refine Rules.st H okX4_order [] ?_; conv => whnf) | refine br_t (by first | decide | assumption) ?_ | refine br_f (by first | decide | assumption) ?_ | refine br_c (fun _ => ?_) (fun _ => ?_) | refine ⟨by decide, ?_⟩ | refine ⟨by first | assumption | (unfold vp_in; decide) | ((with_reducible (refine vp_in_nI ?_ ?_)) <;> omega), ?_⟩ | fail)
        refine X4_ref H ScX.rf (k := 3) (by omega) (by omega) (by decide) (fun S' hS' => ?_)
        repeat' (first | (refine Rules.st H okX4_order [] ?_; conv => whnf) | refine br_t (by first | decide | assumption) ?_ | refine br_f (by first | decide | assumption) ?_ | refine br_c (fun _ => ?_) (fun _ => ?_) | refine ⟨by decide, ?_⟩ | refine ⟨by first | assumption | (unfold vp_in; decide) | ((with_reducible (refine vp_in_nI ?_ ?_)) <;> omega), ?_⟩ | fail)
        exact h1 S' hS'
    · have g : ¬ setF n set = 0 := by assumption
      rw [if_neg g] at h1
      obtain ⟨k1, k2, k3⟩ := setF_k.resolve_left g
      refine X4_ref H ScX.rf k1 k2 k3 (fun S' hS' => ?_)
      repeat' (first | (refine Rules.st H okX4_order [] ?_; conv => whnf) | refine br_t (by first | decide | assumption) ?_ | refine br_f (by first | decide | assumption) ?_ | refine br_c (fun _ => ?_) (fun _ => ?_) | refine ⟨by decide, ?_⟩ | refine ⟨by first | assumption | (unfold vp_in; decide) | ((with_reducible (refine vp_in_nI ?_ ?_)) <;> omega), ?_⟩ | fail)
      exact h1 S' hS'
  · rw [if_neg (okM_neg hno)] at h1
    repeat' (first | (refine Rules.st H okX4_order [] ?_; conv => whnf) | refine br_t (by first | decide | assumption) ?_ | refine br_f (by first | decide | assumption) ?_ | refine br_c (fun _ => ?_) (fun _ => ?_) | refine ⟨by decide, ?_⟩ | refine ⟨by first | assumption | (unfold vp_in; decide) | ((with_reducible (refine vp_in_nI ?_ ?_)) <;> omega), ?_⟩ | fail)
    refine X4_ref H ScX.rf (k := 1) (by omega) (by omega) (by decide) (fun S' hS' => ?_)
    repeat' (first | (refine Rules.st H okX4_order [] ?_; conv => whnf) | refine br_t (by first | decide | assumption) ?_ | refine br_f (by first | decide | assumption) ?_ | refine br_c (fun _ => ?_) (fun _ => ?_) | refine ⟨by decide, ?_⟩ | refine ⟨by first | assumption | (unfold vp_in; decide) | ((with_reducible (refine vp_in_nI ?_ ?_)) <;> omega), ?_⟩ | fail)
    exact h1 S' hS'
end X13
