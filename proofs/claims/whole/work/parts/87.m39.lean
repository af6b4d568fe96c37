section M39
variable {C : Cst} {T : Nat → Pst → Nat → Lcs → List Value → Mem → Prop}
def obN (b : Bst) : Int32 := match b with
  | none => 0
  | some (a, _, _) => a
def obD (x : Int32) (b : Bst) : Int32 := match b with
  | none => x
  | some (_, d, _) => d
def obT (b : Bst) : Int32 := match b with
  | none => 1000000
  | some (_, _, t) => t
set_option maxRecDepth 100000 in
theorem obA_eq {b : Bst} (h : ¬ b = none) (w x : Int32) : bsA w b = if w = 0 then obN b else if w = 1 then obD x b else obT b := by
  cases b with
  | none => exact absurd rfl h
  | some b => rfl
set_option maxRecDepth 100000 in
theorem ref_y {K : Mem} {m : Nat} {ls : List Nat} {l k c : Nat} {b : Bst} (h : ndB l c = true) : refK K m ls l (k + 1) c b = refK K m ls l k (c + 1) (ordB K m ls (dgs l c l) l b) := by
  conv => lhs; unfold refK
  rw [h]
set_option maxRecDepth 100000 in
theorem ref_n {K : Mem} {m : Nat} {ls : List Nat} {l k c : Nat} {b : Bst} (h : ndB l c = false) : refK K m ls l (k + 1) c b = refK K m ls l k (c + 1) b := by
  conv => lhs; unfold refK
  rw [h]
set_option maxRecDepth 100000 in
theorem vN_pos {ls : List Nat} {l c : Nat} : ∀ k, 0 < k → 0 < vN ls l c k
  | 0, h => absurd h (by omega)
  | k + 1, _ => by
    unfold vN
    have : 0 < 10 ^ k * (gN ls (c / l ^ k % l) + 1) := Nat.mul_pos (Nat.pow_pos (by omega)) (by omega)
    omega
set_option maxRecDepth 100000 in
theorem X5_order_e (H : Rules C T) {S : Mem} {m set w b0 d0 t0 c : Int32} {y1 y2 : Option Value} (hw : w = 0 ∨ w = 1 ∨ w = 2) {Q : Pst} (h1 : Q (some (.int (if w = 0 then b0 else if w = 1 then d0 else t0))) S) : T mX5_order Q 199 [some (.ref 25), some (.int m), some (.int set), some (.int w), some (.int 0), some (.int b0), some (.int d0), some (.int t0), some (.int c), y1, y2] [] S := by
  rcases hw with rfl | rfl | rfl
  · skip
    repeat' (first | (refine Rules.st H okX5_order [] ?_; (conv => whnf); try (show T _ _ _ [_, _, _, _, _, _, _, _, _, _, _] _ _)) | refine br_t (by first | decide | assumption) ?_ | refine br_f (by first | decide | assumption) ?_ | refine br_c (fun _ => ?_) (fun _ => ?_) | refine ⟨by decide, ?_⟩ | refine ⟨by first | assumption | (unfold vp_in; decide) | ((with_reducible (refine vp_in_nI ?_ ?_)) <;> omega), ?_⟩ | fail)
    exact h1
  · skip
    repeat' (first | (refine Rules.st H okX5_order [] ?_; (conv => whnf); try (show T _ _ _ [_, _, _, _, _, _, _, _, _, _, _] _ _)) | refine br_t (by first | decide | assumption) ?_ | refine br_f (by first | decide | assumption) ?_ | refine br_c (fun _ => ?_) (fun _ => ?_) | refine ⟨by decide, ?_⟩ | refine ⟨by first | assumption | (unfold vp_in; decide) | ((with_reducible (refine vp_in_nI ?_ ?_)) <;> omega), ?_⟩ | fail)
    exact h1
  · skip
    repeat' (first | (refine Rules.st H okX5_order [] ?_; (conv => whnf); try (show T _ _ _ [_, _, _, _, _, _, _, _, _, _, _] _ _)) | refine br_t (by first | decide | assumption) ?_ | refine br_f (by first | decide | assumption) ?_ | refine br_c (fun _ => ?_) (fun _ => ?_) | refine ⟨by decide, ?_⟩ | refine ⟨by first | assumption | (unfold vp_in; decide) | ((with_reducible (refine vp_in_nI ?_ ?_)) <;> omega), ?_⟩ | fail)
    exact h1
set_option maxRecDepth 100000 in
theorem X5_order_l (H : Rules C T) {S K : Mem} {n m l : Nat} {ls : List Nat} {set : Int32} (hm : m < 2) (X : XM S K n) (h0 : 0 < l) (h5 : l ≤ 5) (hl : ∀ a, a < l → gN ls a < n) {w : Int32} (hw : w = 0 ∨ w = 1 ∨ w = 2) {Q : Pst} : ∀ (k c : Nat) (b : Bst) (S1 : Mem) (y1 y2 : Option Value), c + k = l ^ l → (∀ a, b = some a → 0 < a.1) → ScM 0 S S1 → LSM S1 ls l → ¬ refK K m ls l k c b = none → (∀ S2, ScM 0 S S2 → Q (some (.int (bsA w (refK K m ls l k c b)))) S2) → T mX5_order Q 105 [some (.ref 25), some (.int (nI m)), some (.int set), some (.int w), some (.int 0), some (.int (obN b)), some (.int (obD (pcI (K 0 1)) b)), some (.int (obT b)), some (.int (nI c)), y1, y2] [] S1 := by
  obtain ⟨⟨d, R⟩, g, hz⟩ := X
  have h8 := g.2.1
  have hp5 := p5 h5
  have hl8 : ∀ a, a < l → gN ls a < 8 := fun a ha => by have := hl a ha; omega
  intro k
  induction k with
  | zero =>
    intro c b S1 y1 y2 hc hp s1 L hne h1
    have hge : nI (l ^ l) ≤ nI c := nI_le (by omega) (by omega)
    have h1 := h1 S1 s1
    unfold refK at h1 hne
    rw [obA_eq hne w (pcI (K 0 1))] at h1
    skip
    repeat' (first | (refine Rules.st H okX5_order [199] ?_; (conv => whnf); try (show T _ _ _ [_, _, _, _, _, _, _, _, _, _, _] _ _)) | refine br_t (by first | decide | assumption) ?_ | refine br_f (by first | decide | assumption) ?_ | refine br_c (fun _ => ?_) (fun _ => ?_) | refine ⟨by decide, ?_⟩ | refine ⟨by first | assumption | (unfold vp_in; decide) | ((with_reducible (refine vp_in_nI ?_ ?_)) <;> omega), ?_⟩ | fail)
    refine X5_codes H L.1 h5 ?_
    repeat' (first | (refine Rules.st H okX5_order [199] ?_; (conv => whnf); try (show T _ _ _ [_, _, _, _, _, _, _, _, _, _, _] _ _)) | refine br_t (by first | decide | assumption) ?_ | refine br_f (by first | decide | assumption) ?_ | refine br_c (fun _ => ?_) (fun _ => ?_) | refine ⟨by decide, ?_⟩ | refine ⟨by first | assumption | (unfold vp_in; decide) | ((with_reducible (refine vp_in_nI ?_ ?_)) <;> omega), ?_⟩ | fail)
    exact Halt.mk (X5_order_e H hw h1)
  | succ k ih =>
    intro c b S1 y1 y2 hc hp s1 L hne h1
    obtain ⟨d1, R1⟩ := s1.rep R
    have hge : ¬ nI (l ^ l) ≤ nI c := nI_ge (by omega) (by omega)
    have hl0 : ¬ S1 25 28 ≤ 0 := by rw [L.1]; exact nI_ge (a := 0) (by omega) (by omega)
    have hN : vN ls l c l < 2 ^ 31 := Nat.lt_of_lt_of_le (vN_lt h0 hl8 l) (Nat.le_trans (Nat.pow_le_pow_right (n := 10) (by omega) h5) (by omega))
    have hNp : 0 < vN ls l c l := vN_pos l h0
    cases hn : ndB l c with
    | false =>
      have e0 : nI (ordN ls l c) = 0 := by unfold ordN; rw [hn]; rfl
      rw [ref_n hn] at h1 hne
      skip
      repeat' (first | (refine Rules.st H okX5_order [105] ?_; (conv => whnf); try (show T _ _ _ [_, _, _, _, _, _, _, _, _, _, _] _ _)) | refine br_t (by first | decide | assumption) ?_ | refine br_f (by first | decide | assumption) ?_ | refine br_c (fun _ => ?_) (fun _ => ?_) | refine ⟨by decide, ?_⟩ | refine ⟨by first | assumption | (unfold vp_in; decide) | ((with_reducible (refine vp_in_nI ?_ ?_)) <;> omega), ?_⟩ | fail)
      refine X5_codes H L.1 h5 ?_
      repeat' (first | (refine Rules.st H okX5_order [105] ?_; (conv => whnf); try (show T _ _ _ [_, _, _, _, _, _, _, _, _, _, _] _ _)) | refine br_t (by first | decide | assumption) ?_ | refine br_f (by first | decide | assumption) ?_ | refine br_c (fun _ => ?_) (fun _ => ?_) | refine ⟨by decide, ?_⟩ | refine ⟨by first | assumption | (unfold vp_in; decide) | ((with_reducible (refine vp_in_nI ?_ ?_)) <;> omega), ?_⟩ | fail)
      refine X5_orderOf H L h0 h5 hl8 (by omega) ?_
      repeat' (first | (refine Rules.st H okX5_order [105] ?_; (conv => whnf); try (show T _ _ _ [_, _, _, _, _, _, _, _, _, _, _] _ _)) | refine br_t (by first | decide | assumption) ?_ | refine br_f (by first | decide | assumption) ?_ | refine br_c (fun _ => ?_) (fun _ => ?_) | refine ⟨by decide, ?_⟩ | refine ⟨by first | assumption | (unfold vp_in; decide) | ((with_reducible (refine vp_in_nI ?_ ?_)) <;> omega), ?_⟩ | fail)
      refine Halt.mk ?_
      rw [nI_1]
      exact ih (c + 1) b S1 _ _ (by omega) hp s1 L hne h1
    | true =>
      have e0 : ordN ls l c = vN ls l c l := by unfold ordN; rw [hn]
      have e1 : ¬ nI (vN ls l c l) = 0 := fun z => by have := (nI_eq (b := 0) hN (by omega)).mp z; omega
      rw [ref_y hn] at h1 hne
      skip
      repeat' (first | (refine Rules.st H okX5_order [105] ?_; (conv => whnf); try (show T _ _ _ [_, _, _, _, _, _, _, _, _, _, _] _ _)) | refine br_t (by first | decide | assumption) ?_ | refine br_f (by first | decide | assumption) ?_ | refine br_c (fun _ => ?_) (fun _ => ?_) | refine ⟨by decide, ?_⟩ | refine ⟨by first | assumption | (unfold vp_in; decide) | ((with_reducible (refine vp_in_nI ?_ ?_)) <;> omega), ?_⟩ | fail)
      refine X5_codes H L.1 h5 ?_
      repeat' (first | (refine Rules.st H okX5_order [105] ?_; (conv => whnf); try (show T _ _ _ [_, _, _, _, _, _, _, _, _, _, _] _ _)) | refine br_t (by first | decide | assumption) ?_ | refine br_f (by first | decide | assumption) ?_ | refine br_c (fun _ => ?_) (fun _ => ?_) | refine ⟨by decide, ?_⟩ | refine ⟨by first | assumption | (unfold vp_in; decide) | ((with_reducible (refine vp_in_nI ?_ ?_)) <;> omega), ?_⟩ | fail)
      refine X5_orderOf H L h0 h5 hl8 (by omega) ?_
      rw [e0]
      repeat' (first | (refine Rules.st H okX5_order [105] ?_; (conv => whnf); try (show T _ _ _ [_, _, _, _, _, _, _, _, _, _, _] _ _)) | refine br_t (by first | decide | assumption) ?_ | refine br_f (by first | decide | assumption) ?_ | refine br_c (fun _ => ?_) (fun _ => ?_) | refine ⟨by decide, ?_⟩ | refine ⟨by first | assumption | (unfold vp_in; decide) | ((with_reducible (refine vp_in_nI ?_ ?_)) <;> omega), ?_⟩ | fail)
      refine X5_orderMinutes H hm h0 h5 hl R1 g L (fun S2 s2 L2 e29 => ?_)
      unfold ordB at h1 hne
      rw [num_vN, ← e29] at h1 hne
      generalize visJ m ls (dgs l c l) l 0 K 5 m - K 5 m = V at h1 hne ⊢
      have nx : ∀ (b' : Bst) (y1 y2 : Option Value), offB b (nI (vN ls l c l)) (S2 25 29) V = b' → (∀ a, b' = some a → 0 < a.1) → T mX5_order Q 105 [some (.ref 25), some (.int (nI m)), some (.int set), some (.int w), some (.int 0), some (.int (obN b')), some (.int (obD (pcI (K 0 1)) b')), some (.int (obT b')), some (.int (nI c + 1)), y1, y2] [] S2 := fun b' y1 y2 eb hb' => by
        rw [nI_1]
        exact ih (c + 1) b' S2 _ _ (by omega) hb' (s1.tr s2) L2 (by rw [← eb]; exact hne) (fun S3 s3 => by rw [← eb]; exact h1 S3 s3)
      have tk := fun y1 y2 e => nx (some (nI (vN ls l c l), S2 25 29, V)) y1 y2 e (fun a ha => by cases ha; exact nI_lt (a := 0) hNp hN)
      cases b with
      | none =>
        have p : obN none ≤ 0 := by decide
        repeat' (first | (refine Rules.st H okX5_order [105] ?_; (conv => whnf); try (show T _ _ _ [_, _, _, _, _, _, _, _, _, _, _] _ _)) | refine br_t (by first | decide | assumption) ?_ | refine br_f (by first | decide | assumption) ?_ | refine br_c (fun _ => ?_) (fun _ => ?_) | refine ⟨by decide, ?_⟩ | refine ⟨by first | assumption | (unfold vp_in; decide) | ((with_reducible (refine vp_in_nI ?_ ?_)) <;> omega), ?_⟩ | fail)
        exact Halt.mk (tk _ _ rfl)
      | some b =>
        obtain ⟨b0, d0, t0⟩ := b
        have p : ¬ obN (some (b0, d0, t0)) ≤ 0 := Int32.not_le.mpr (hp _ rfl)
        have ky := fun y1 y2 e => nx (some (b0, d0, t0)) y1 y2 e hp
        by_cases c1 : S2 25 29 < obD (pcI (K 0 1)) (some (b0, d0, t0))
        · have c1' : S2 25 29 < d0 := c1
          repeat' (first | (refine Rules.st H okX5_order [105] ?_; (conv => whnf); try (show T _ _ _ [_, _, _, _, _, _, _, _, _, _, _] _ _)) | refine br_t (by first | decide | assumption) ?_ | refine br_f (by first | decide | assumption) ?_ | refine br_c (fun _ => ?_) (fun _ => ?_) | refine ⟨by decide, ?_⟩ | refine ⟨by first | assumption | (unfold vp_in; decide) | ((with_reducible (refine vp_in_nI ?_ ?_)) <;> omega), ?_⟩ | fail)
          exact Halt.mk (ky _ _ (if_neg (fun z => z.elim (fun z => Int32.lt_irrefl (Int32.lt_trans c1' z)) (fun z => by rw [z.1] at c1'; exact Int32.lt_irrefl c1'))))
        · by_cases c2 : S2 25 29 = obD (pcI (K 0 1)) (some (b0, d0, t0))
          · have c2' : S2 25 29 = d0 := c2
            by_cases c3 : V < obT (some (b0, d0, t0))
            · repeat' (first | (refine Rules.st H okX5_order [105] ?_; (conv => whnf); try (show T _ _ _ [_, _, _, _, _, _, _, _, _, _, _] _ _)) | refine br_t (by first | decide | assumption) ?_ | refine br_f (by first | decide | assumption) ?_ | refine br_c (fun _ => ?_) (fun _ => ?_) | refine ⟨by decide, ?_⟩ | refine ⟨by first | assumption | (unfold vp_in; decide) | ((with_reducible (refine vp_in_nI ?_ ?_)) <;> omega), ?_⟩ | fail)
              exact Halt.mk (tk _ _ (if_pos (Or.inr ⟨c2', c3⟩)))
            · repeat' (first | (refine Rules.st H okX5_order [105] ?_; (conv => whnf); try (show T _ _ _ [_, _, _, _, _, _, _, _, _, _, _] _ _)) | refine br_t (by first | decide | assumption) ?_ | refine br_f (by first | decide | assumption) ?_ | refine br_c (fun _ => ?_) (fun _ => ?_) | refine ⟨by decide, ?_⟩ | refine ⟨by first | assumption | (unfold vp_in; decide) | ((with_reducible (refine vp_in_nI ?_ ?_)) <;> omega), ?_⟩ | fail)
              exact Halt.mk (ky _ _ (if_neg (fun z => z.elim (fun z => by rw [c2'] at z; exact Int32.lt_irrefl z) (fun z => c3 z.2))))
          · have c2' : d0 < S2 25 29 := Int32.lt_of_le_of_ne (Int32.not_lt.mp c1) (fun z => c2 z.symm)
            repeat' (first | (refine Rules.st H okX5_order [105] ?_; (conv => whnf); try (show T _ _ _ [_, _, _, _, _, _, _, _, _, _, _] _ _)) | refine br_t (by first | decide | assumption) ?_ | refine br_f (by first | decide | assumption) ?_ | refine br_c (fun _ => ?_) (fun _ => ?_) | refine ⟨by decide, ?_⟩ | refine ⟨by first | assumption | (unfold vp_in; decide) | ((with_reducible (refine vp_in_nI ?_ ?_)) <;> omega), ?_⟩ | fail)
            exact Halt.mk (tk _ _ (if_pos (Or.inl c2')))
set_option maxRecDepth 100000 in
theorem chn_0 : chn 120 (List.range 0) = [[]] := by decide
set_option maxRecDepth 100000 in
theorem X5_order (H : Rules C T) {S K : Mem} {n : Nat} (X : XM S K n) {m set w : Int32} {Q : Pst} (h1 : AnsM S (F_order K n m set w) Q) : C mX5_order [.ref 25, .int m, .int set, .int w] S Q := by
  have X0 := X
  obtain ⟨⟨d, R⟩, g, hz⟩ := X
  have h8 := g.2.1
  obtain ⟨f4, f6, f0⟩ := setF_3 h8 set
  unfold F_order at h1
  refine Rules.go H (by decide) (Nat.le_of_ble_eq_true rfl) ?_
  repeat' (first | (refine Rules.st H okX5_order [105] ?_; (conv => whnf); try (show T _ _ _ [_, _, _, _, _, _, _, _, _, _, _] _ _)) | refine br_t (by first | decide | assumption) ?_ | refine br_f (by first | decide | assumption) ?_ | refine br_c (fun _ => ?_) (fun _ => ?_) | refine ⟨by decide, ?_⟩ | refine ⟨by first | assumption | (unfold vp_in; decide) | ((with_reducible (refine vp_in_nI ?_ ?_)) <;> omega), ?_⟩ | fail)
  refine X5_isMaid H (fun i hi e => ?_) (fun hno => ?_)
  · subst e
    rw [if_pos (okM_nI hi), show ix (nI i) = i from nIc (by omega)] at h1
    repeat' (first | (refine Rules.st H okX5_order [105] ?_; (conv => whnf); try (show T _ _ _ [_, _, _, _, _, _, _, _, _, _, _] _ _)) | refine br_t (by first | decide | assumption) ?_ | refine br_f (by first | decide | assumption) ?_ | refine br_c (fun _ => ?_) (fun _ => ?_) | refine ⟨by decide, ?_⟩ | refine ⟨by first | assumption | (unfold vp_in; decide) | ((with_reducible (refine vp_in_nI ?_ ?_)) <;> omega), ?_⟩ | fail)
    rw [R.rm.trans g.1, bd_n n (by omega)]
    refine X5_bound H (fun q3 => ?_) (fun q3 q4 => ?_) (fun q3 q4 => ?_)
    · rw [f4 q3, if_neg (by decide)] at h1
      repeat' (first | (refine Rules.st H okX5_order [105] ?_; (conv => whnf); try (show T _ _ _ [_, _, _, _, _, _, _, _, _, _, _] _ _)) | refine br_t (by first | decide | assumption) ?_ | refine br_f (by first | decide | assumption) ?_ | refine br_c (fun _ => ?_) (fun _ => ?_) | refine ⟨by decide, ?_⟩ | refine ⟨by first | assumption | (unfold vp_in; decide) | ((with_reducible (refine vp_in_nI ?_ ?_)) <;> omega), ?_⟩ | fail)
      refine X5_no H ScM.rf (k := 4) (by omega) (by omega) (by decide) (fun S' hS' => ?_)
      repeat' (first | (refine Rules.st H okX5_order [105] ?_; (conv => whnf); try (show T _ _ _ [_, _, _, _, _, _, _, _, _, _, _] _ _)) | refine br_t (by first | decide | assumption) ?_ | refine br_f (by first | decide | assumption) ?_ | refine br_c (fun _ => ?_) (fun _ => ?_) | refine ⟨by decide, ?_⟩ | refine ⟨by first | assumption | (unfold vp_in; decide) | ((with_reducible (refine vp_in_nI ?_ ?_)) <;> omega), ?_⟩ | fail)
      exact h1 S' hS'
    · rw [f6 q3 q4, if_neg (by decide)] at h1
      repeat' (first | (refine Rules.st H okX5_order [105] ?_; (conv => whnf); try (show T _ _ _ [_, _, _, _, _, _, _, _, _, _, _] _ _)) | refine br_t (by first | decide | assumption) ?_ | refine br_f (by first | decide | assumption) ?_ | refine br_c (fun _ => ?_) (fun _ => ?_) | refine ⟨by decide, ?_⟩ | refine ⟨by first | assumption | (unfold vp_in; decide) | ((with_reducible (refine vp_in_nI ?_ ?_)) <;> omega), ?_⟩ | fail)
      refine X5_no H ScM.rf (k := 6) (by omega) (by omega) (by decide) (fun S' hS' => ?_)
      repeat' (first | (refine Rules.st H okX5_order [105] ?_; (conv => whnf); try (show T _ _ _ [_, _, _, _, _, _, _, _, _, _, _] _ _)) | refine br_t (by first | decide | assumption) ?_ | refine br_f (by first | decide | assumption) ?_ | refine br_c (fun _ => ?_) (fun _ => ?_) | refine ⟨by decide, ?_⟩ | refine ⟨by first | assumption | (unfold vp_in; decide) | ((with_reducible (refine vp_in_nI ?_ ?_)) <;> omega), ?_⟩ | fail)
      exact h1 S' hS'
    · obtain ⟨e0, D, hD, rfl⟩ := f0 q3 q4
      rw [e0, if_pos rfl] at h1
      have pp := pop_t n (by omega) D hD
      repeat' (first | (refine Rules.st H okX5_order [105] ?_; (conv => whnf); try (show T _ _ _ [_, _, _, _, _, _, _, _, _, _, _] _ _)) | refine br_t (by first | decide | assumption) ?_ | refine br_f (by first | decide | assumption) ?_ | refine br_c (fun _ => ?_) (fun _ => ?_) | refine ⟨by decide, ?_⟩ | refine ⟨by first | assumption | (unfold vp_in; decide) | ((with_reducible (refine vp_in_nI ?_ ?_)) <;> omega), ?_⟩ | fail)
      refine X5_bits H h8 ⟨D, hD, rfl⟩ ?_
      by_cases g1 : pcI (nI D) ≤ 5
      · have h5 : (listS (nI D) n).length ≤ 5 := (pcl5 n h8 D hD).mp g1
        rw [if_neg (Int32.not_lt.mpr g1)] at h1
        repeat' (first | (refine Rules.st H okX5_order [105] ?_; (conv => whnf); try (show T _ _ _ [_, _, _, _, _, _, _, _, _, _, _] _ _)) | refine br_t (by first | decide | assumption) ?_ | refine br_f (by first | decide | assumption) ?_ | refine br_c (fun _ => ?_) (fun _ => ?_) | refine ⟨by decide, ?_⟩ | refine ⟨by first | assumption | (unfold vp_in; decide) | ((with_reducible (refine vp_in_nI ?_ ?_)) <;> omega), ?_⟩ | fail)
        refine X5_isIn H (fun p1 p2 => ?_) (fun p0 => ?_)
        · rw [if_neg (w2y p1 p2)] at h1
          repeat' (first | (refine Rules.st H okX5_order [105] ?_; (conv => whnf); try (show T _ _ _ [_, _, _, _, _, _, _, _, _, _, _] _ _)) | refine br_t (by first | decide | assumption) ?_ | refine br_f (by first | decide | assumption) ?_ | refine br_c (fun _ => ?_) (fun _ => ?_) | refine ⟨by decide, ?_⟩ | refine ⟨by first | assumption | (unfold vp_in; decide) | ((with_reducible (refine vp_in_nI ?_ ?_)) <;> omega), ?_⟩ | fail)
          refine X5_lists H R g h5 (fun S1 L1 s1 => ?_)
          obtain ⟨d1, R1⟩ := s1.rep R
          repeat' (first | (refine Rules.st H okX5_order [105] ?_; (conv => whnf); try (show T _ _ _ [_, _, _, _, _, _, _, _, _, _, _] _ _)) | refine br_t (by first | decide | assumption) ?_ | refine br_f (by first | decide | assumption) ?_ | refine br_c (fun _ => ?_) (fun _ => ?_) | refine ⟨by decide, ?_⟩ | refine ⟨by first | assumption | (unfold vp_in; decide) | ((with_reducible (refine vp_in_nI ?_ ?_)) <;> omega), ?_⟩ | fail)
          refine X5_manyDone H R1 g ?_
          by_cases l0 : (listS (nI D) n).length = 0
          · have z0 : S1 25 28 = 0 := by rw [L1.1, l0]; rfl
            have z1 : S1 25 28 ≤ 0 := by rw [z0]; decide
            rw [l0] at h1 L1
            rw [seqK_fold, chn_0] at h1
            have e1 : ([[]].foldl (fun b s => ordB K i (listS (nI D) n) s 0 b) none : Bst) = some (0, pcI (K 0 1), 0) := by
              show offB none (numJ _ [] 0) _ _ = _
              unfold numJ pnumK visJ offB
              rw [Int32.sub_self]
            rw [e1] at h1
            have h1 := h1 S1 s1
            skip
            repeat' (first | (refine Rules.st H okX5_order [199] ?_; (conv => whnf); try (show T _ _ _ [_, _, _, _, _, _, _, _, _, _, _] _ _)) | refine br_t (by first | decide | assumption) ?_ | refine br_f (by first | decide | assumption) ?_ | refine br_c (fun _ => ?_) (fun _ => ?_) | refine ⟨by decide, ?_⟩ | refine ⟨by first | assumption | (unfold vp_in; decide) | ((with_reducible (refine vp_in_nI ?_ ?_)) <;> omega), ?_⟩ | fail)
            refine X5_codes H L1.1 (by omega) ?_
            repeat' (first | (refine Rules.st H okX5_order [199] ?_; (conv => whnf); try (show T _ _ _ [_, _, _, _, _, _, _, _, _, _, _] _ _)) | refine br_t (by first | decide | assumption) ?_ | refine br_f (by first | decide | assumption) ?_ | refine br_c (fun _ => ?_) (fun _ => ?_) | refine ⟨by decide, ?_⟩ | refine ⟨by first | assumption | (unfold vp_in; decide) | ((with_reducible (refine vp_in_nI ?_ ?_)) <;> omega), ?_⟩ | fail)
            exact Halt.mk (X5_order_e H (w3 p1 p2) h1)
          · have z0 : ¬ S1 25 28 = 0 := by
              rw [L1.1]
              exact fun z => by have := (nI_eq (a := (listS (nI D) n).length) (b := 0) (by omega) (by omega)).mp z; omega
            rw [seq_ref K i (listS (nI D) n) (by omega) (by omega)] at h1
            have hne := seqK_some K i (listS (nI D) n) (listS (nI D) n).length 120 (List.range (listS (nI D) n).length) none (Or.inl (by omega))
            rw [seq_ref K i (listS (nI D) n) (by omega) (by omega)] at hne
            skip
            repeat' (first | (refine Rules.st H okX5_order [105] ?_; (conv => whnf); try (show T _ _ _ [_, _, _, _, _, _, _, _, _, _, _] _ _)) | refine br_t (by first | decide | assumption) ?_ | refine br_f (by first | decide | assumption) ?_ | refine br_c (fun _ => ?_) (fun _ => ?_) | refine ⟨by decide, ?_⟩ | refine ⟨by first | assumption | (unfold vp_in; decide) | ((with_reducible (refine vp_in_nI ?_ ?_)) <;> omega), ?_⟩ | fail)
            refine Halt.mk ?_
            exact X5_order_l H hi X0 (by omega) h5 (fun a ha => listS_lt _ (gN_mem ha)) (w3 p1 p2) _ 0 none S1 _ _ (by omega) (fun a z => by cases z) s1 L1 hne (fun S2 s2 => h1 S2 s2)
        · rw [if_pos (w2n p0)] at h1
          repeat' (first | (refine Rules.st H okX5_order [105] ?_; (conv => whnf); try (show T _ _ _ [_, _, _, _, _, _, _, _, _, _, _] _ _)) | refine br_t (by first | decide | assumption) ?_ | refine br_f (by first | decide | assumption) ?_ | refine br_c (fun _ => ?_) (fun _ => ?_) | refine ⟨by decide, ?_⟩ | refine ⟨by first | assumption | (unfold vp_in; decide) | ((with_reducible (refine vp_in_nI ?_ ?_)) <;> omega), ?_⟩ | fail)
          refine X5_no H ScM.rf (k := 2) (by omega) (by omega) (by decide) (fun S' hS' => ?_)
          repeat' (first | (refine Rules.st H okX5_order [105] ?_; (conv => whnf); try (show T _ _ _ [_, _, _, _, _, _, _, _, _, _, _] _ _)) | refine br_t (by first | decide | assumption) ?_ | refine br_f (by first | decide | assumption) ?_ | refine br_c (fun _ => ?_) (fun _ => ?_) | refine ⟨by decide, ?_⟩ | refine ⟨by first | assumption | (unfold vp_in; decide) | ((with_reducible (refine vp_in_nI ?_ ?_)) <;> omega), ?_⟩ | fail)
          exact h1 S' hS'
      · rw [if_pos (Int32.not_le.mp g1)] at h1
        repeat' (first | (refine Rules.st H okX5_order [105] ?_; (conv => whnf); try (show T _ _ _ [_, _, _, _, _, _, _, _, _, _, _] _ _)) | refine br_t (by first | decide | assumption) ?_ | refine br_f (by first | decide | assumption) ?_ | refine br_c (fun _ => ?_) (fun _ => ?_) | refine ⟨by decide, ?_⟩ | refine ⟨by first | assumption | (unfold vp_in; decide) | ((with_reducible (refine vp_in_nI ?_ ?_)) <;> omega), ?_⟩ | fail)
        refine X5_no H ScM.rf (k := 3) (by omega) (by omega) (by decide) (fun S' hS' => ?_)
        repeat' (first | (refine Rules.st H okX5_order [105] ?_; (conv => whnf); try (show T _ _ _ [_, _, _, _, _, _, _, _, _, _, _] _ _)) | refine br_t (by first | decide | assumption) ?_ | refine br_f (by first | decide | assumption) ?_ | refine br_c (fun _ => ?_) (fun _ => ?_) | refine ⟨by decide, ?_⟩ | refine ⟨by first | assumption | (unfold vp_in; decide) | ((with_reducible (refine vp_in_nI ?_ ?_)) <;> omega), ?_⟩ | fail)
        exact h1 S' hS'
  · rw [if_neg (okM_neg hno)] at h1
    repeat' (first | (refine Rules.st H okX5_order [105] ?_; (conv => whnf); try (show T _ _ _ [_, _, _, _, _, _, _, _, _, _, _] _ _)) | refine br_t (by first | decide | assumption) ?_ | refine br_f (by first | decide | assumption) ?_ | refine br_c (fun _ => ?_) (fun _ => ?_) | refine ⟨by decide, ?_⟩ | refine ⟨by first | assumption | (unfold vp_in; decide) | ((with_reducible (refine vp_in_nI ?_ ?_)) <;> omega), ?_⟩ | fail)
    refine X5_no H ScM.rf (k := 1) (by omega) (by omega) (by decide) (fun S' hS' => ?_)
    repeat' (first | (refine Rules.st H okX5_order [105] ?_; (conv => whnf); try (show T _ _ _ [_, _, _, _, _, _, _, _, _, _, _] _ _)) | refine br_t (by first | decide | assumption) ?_ | refine br_f (by first | decide | assumption) ?_ | refine br_c (fun _ => ?_) (fun _ => ?_) | refine ⟨by decide, ?_⟩ | refine ⟨by first | assumption | (unfold vp_in; decide) | ((with_reducible (refine vp_in_nI ?_ ?_)) <;> omega), ?_⟩ | fail)
    exact h1 S' hS'
end M39
