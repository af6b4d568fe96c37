section M44
variable {C : Cst} {T : Nat → Pst → Nat → Lcs → List Value → Mem → Prop}
set_option maxRecDepth 100000 in
theorem dg_c {c : Int32} (h : isDg c) : ∃ e, e ≤ 9 ∧ c = nI (48 + e) ∧ c - 48 = nI e := by
  obtain ⟨h1, h2⟩ := h
  have a1 : (48 : Int32).toInt = 48 := by decide
  have a2 : (57 : Int32).toInt = 57 := by decide
  rw [leT] at h1 h2
  have h0 : ¬ c < 0 := by
    rw [ltT]
    have : (0 : Int32).toInt = 0 := by decide
    omega
  obtain ⟨j, hj, rfl⟩ := nI_of h0
  rw [nIt hj] at h1 h2
  refine ⟨j - 48, by omega, by congr 1; omega, ?_⟩
  rw [show nI j = nI (j - 48) + 48 from by rw [show (48 : Int32) = nI 48 from rfl, nI_add]; congr 1; omega]
  exact Int32.add_sub_cancel _ _
set_option maxRecDepth 100000 in
theorem dg1 (lt : Nat → Int32) (l q : Nat) : digV lt l 1 q 0 = ltA lt l q - 48 := by
  show 10 * 0 + ltA lt l q - 48 = _
  rw [Int32.mul_zero, Int32.zero_add]
set_option maxRecDepth 100000 in
theorem dg3 {lt : Nat → Int32} {l q : Nat} (h1 : isDg (ltA lt l q)) (h2 : isDg (ltA lt l (q + 1))) (h3 : isDg (ltA lt l (q + 2))) : digV lt l 3 q 0 = 100 * (ltA lt l q - 48) + 10 * (ltA lt l (q + 1) - 48) + (ltA lt l (q + 2) - 48) ∧ isT 999 (digV lt l 3 q 0) := by
  obtain ⟨a, ha, ea, ea2⟩ := dg_c h1
  obtain ⟨b, hb, eb, eb2⟩ := dg_c h2
  obtain ⟨c, hc, ec, ec2⟩ := dg_c h3
  have e : digV lt l 3 q 0 = nI (100 * a + 10 * b + c) := by
    show 10 * (10 * (10 * 0 + ltA lt l q - 48) + ltA lt l (q + 1) - 48) + ltA lt l (q + 2) - 48 = _
    rw [Int32.mul_zero, Int32.zero_add, ea2, eb, ec, show (10 : Int32) = nI 10 from rfl, nI_mul, nI_add]
    rw [show nI (10 * a + (48 + b)) = nI (10 * a + b) + 48 from by rw [show (48 : Int32) = nI 48 from rfl, nI_add]; congr 1; omega, Int32.add_sub_cancel, nI_mul, nI_add, show nI (10 * (10 * a + b) + (48 + c)) = nI (100 * a + 10 * b + c) + 48 from by rw [show (48 : Int32) = nI 48 from rfl, nI_add]; congr 1; omega, Int32.add_sub_cancel]
  refine ⟨?_, ?_⟩
  · rw [e, ea2, eb2, ec2, show (100 : Int32) = nI 100 from rfl, show (10 : Int32) = nI 10 from rfl, nI_mul, nI_mul, nI_add, nI_add]
  · rw [e]
    exact isT_nI (c := 999) (by omega) (by omega)
set_option maxRecDepth 100000 in
theorem visitK_oc {K : Mem} {i j m : Nat} (hi : i < 2) (h : ¬ m = i) : (visitK K i j).2 5 m = K 5 m := by
  rw [visitK_app hi]
  simp [app, h]
set_option maxRecDepth 100000 in
theorem BK.cut {c : Int} {K : Mem} (h : BK c K) (h2 : ¬ 999 < laterK K) : BK 999 K := by
  unfold laterK maxI at h2
  have a : (999 : Int32).toInt = 999 := by decide
  have b : (K 5 0).toInt ≤ 999 ∧ (K 5 1).toInt ≤ 999 := by
    by_cases q : K 5 0 < K 5 1
    · rw [if_pos q] at h2
      rw [ltT] at q h2
      omega
    · rw [if_neg q] at h2
      rw [ltT] at q h2
      omega
  refine ⟨h.1, fun m hm => ⟨(h.2 m hm).1, ?_⟩⟩
  rcases (show m = 0 ∨ m = 1 by omega) with rfl | rfl
  · exact b.1
  · exact b.2
set_option maxRecDepth 100000 in
theorem later_m {K K0 : Mem} {i : Nat} (hi : i < 2) (B : BK 999 K0) (h : ∀ m, m < 2 → ¬ m = i → K 5 m = K0 5 m) : 999 < laterK K ↔ 999 < K 5 i := by
  have a : (999 : Int32).toInt = 999 := by decide
  have o : ∀ m, m < 2 → ¬ m = i → (K 5 m).toInt ≤ 999 := fun m hm hmi => by rw [h m hm hmi]; exact (B.2 m hm).2
  unfold laterK maxI
  rcases (show i = 0 ∨ i = 1 by omega) with rfl | rfl
  · have o1 := o 1 (by omega) (by omega)
    split
    · next q => rw [ltT] at q; rw [ltT, ltT]; omega
    · exact Iff.rfl
  · have o1 := o 0 (by omega) (by omega)
    split
    · exact Iff.rfl
    · next q => rw [ltT] at q; rw [ltT, ltT]; omega
set_option maxRecDepth 100000 in
theorem isPl_of {n : Nat} (h8 : n ≤ 8) {x : Int32} (h : okP n x) : isPl x := by
  obtain ⟨j, hj, rfl⟩ := nI_of (Int32.not_lt.mpr h.1)
  exact ⟨j, by have := (nI_leI hj (show n < 2 ^ 31 by omega)).mp h.2; omega, rfl⟩
set_option maxRecDepth 100000 in
theorem Gd.add {K : Mem} {n : Nat} (g : Gd K n) (h : n < 8) {kd f : Int32} : Gd (addK K n kd f) (n + 1) := by
  obtain ⟨g1, g2, g3, g4, g5, g6⟩ := g
  unfold addK
  refine ⟨by rw [up_at, g1, nI_1], by omega, ?_, ?_, ?_, ?_⟩
  · rw [up_j (by omega), up_k (by omega), up_k (by omega)]; exact g3.up
  · rw [up_j (by omega), up_k (by omega), up_k (by omega)]; exact g4.up
  · rw [up_k (by omega), up_k (by omega), up_k (by omega)]; exact g5
  · rw [up_k (by omega), up_k (by omega), up_k (by omega)]; exact g6
set_option maxRecDepth 100000 in
theorem BK.fig {c : Int} {K : Mem} {r : Nat} {v : Int32} (h : BK c K) (hv : isT 9 v) : BK c (up K 2 r v) := ⟨fun i hi => by
  by_cases q : i = r
  · rw [q, up_at]; exact hv
  · rw [up_j q]; exact h.1 i hi, fun i hi => by rw [up_k (by omega)]; exact h.2 i hi⟩
set_option maxRecDepth 100000 in
theorem BK.clk {c : Int} {K : Mem} {r : Nat} {v : Int32} (h : BK c K) (hv : isT c v) : BK c (up K 5 r v) := ⟨fun i hi => by
  rw [up_k (by omega)]; exact h.1 i hi, fun i hi => by
  by_cases q : i = r
  · rw [q, up_at]; exact hv
  · rw [up_j q]; exact h.2 i hi⟩
set_option maxRecDepth 100000 in
theorem stm_ok {lt : Nat → Int32} {l p n : Nat} {K : Mem} {s' : NK} (h : stmK lt l p (n, K) = some s') (hok : ∀ x, 1 ≤ x → x ≤ sgN (ltA lt l p) → okS lt l p x) (g : Gd K n) (B : BK 999 K) : Gd s'.2 s'.1 ∧ BK 999 s'.2 ∧ s'.2 0 3 = K 0 3 := by
  have h8 := g.2.1
  have dgt : ∀ x, 1 ≤ x → x ≤ sgN (ltA lt l p) → ¬ (ltA lt l p = 114 ∧ x = 1) → isDg (ltA lt l (p + x)) := fun x h1 h2 h3 => (okS_d h3).mp (hok x h1 h2)
  rw [stmK_1] at h
  unfold stm1 at h
  dsimp only at h
  by_cases c1 : ltA lt l p = 114
  · rw [if_pos c1] at h
    split at h
    · next q =>
      cases h
      have s2 : sgN (ltA lt l p) = 2 := by rw [c1]; decide
      obtain ⟨e, he, _, e2⟩ := dg_c (dgt 2 (by omega) (by omega) (by omega))
      refine ⟨g.add q, ?_, ?_⟩
      · unfold addK
        refine BK.u (BK.fig (B.u (by omega)) ?_) (by omega)
        rw [e2]
        exact isT_nI (c := 9) he (by omega)
      · rfl
    · cases h
  rw [if_neg c1] at h
  by_cases c2 : ltA lt l p = 99
  · rw [if_pos c2] at h
    split at h
    · next q =>
      cases h
      exact ⟨g.flip (Or.inr rfl) (okR_ix h8 q), B.u (by omega), rfl⟩
    · cases h
  rw [if_neg c2] at h
  by_cases c3 : ltA lt l p = 100
  · rw [if_pos c3] at h
    split at h
    · next q =>
      cases h
      exact ⟨g.flip (Or.inl rfl) (okR_ix h8 q), B.u (by omega), rfl⟩
    · cases h
  rw [if_neg c3] at h
  by_cases c4 : ltA lt l p = 109
  · rw [if_pos c4] at h
    split at h
    · next q =>
      cases h
      exact ⟨(g.p3 (isPl_of h8 q.2.1)).u (by omega), (B.u (by omega)).u (by omega), rfl⟩
    · cases h
  rw [if_neg c4] at h
  by_cases c5 : ltA lt l p = 116
  · rw [if_pos c5] at h
    split at h
    · next q =>
      cases h
      have s2 : sgN (ltA lt l p) = 4 := by rw [c5]; decide
      obtain ⟨d1, d2⟩ := dg3 (dgt 2 (by omega) (by omega) (by omega)) (dgt 3 (by omega) (by omega) (by omega)) (dgt 4 (by omega) (by omega) (by omega))
      exact ⟨g.u (by omega), B.clk (by rw [← d1]; exact d2), rfl⟩
    · cases h
  rw [if_neg c5] at h
  by_cases c6 : ltA lt l p = 118
  · rw [if_pos c6] at h
    split at h
    · next q =>
      split at h
      · cases h
      · next q2 =>
        cases h
        have hm : ix (ltA lt l (p + 1) - 48) < 2 := by
          obtain ⟨i, hi, e⟩ := okM_iff.mp q.1
          rw [e, show ix (nI i) = i from nIc (by omega)]; exact hi
        have hr := okR_ix h8 q.2
        exact ⟨g.visit hr, (B.visit g hm hr (by omega)).cut q2, visitK_s _ _ _⟩
    · cases h
  rw [if_neg c6] at h
  by_cases c7 : ltA lt l p = 98
  · rw [if_pos c7] at h
    split at h
    · next q =>
      split at h
      · cases h
      · next q2 =>
        cases h
        have hr := okR_ix h8 q
        exact ⟨g.both hr, (B.both g hr (by omega)).cut q2, bothK_s _ _⟩
    · cases h
  rw [if_neg c7] at h
  cases h
set_option maxRecDepth 100000 in
theorem X5_comesTold (H : Rules C T) {S K : Mem} {d : Int32} {n k l p : Nat} {lt : Nat → Int32} (hk : k < 33) (st : StM S k lt l p) (R : RepM S K d) (g : Gd K n) (B : BK 999 K) {Q : Pst} (h0 : stmK lt l p (n, K) = none → ∀ S' K', RepM S' K' d → K' 0 3 = K 0 3 → FrM S S' → Q (some (.int 0)) S') (h1 : ∀ s', stmK lt l p (n, K) = some s' → ∀ S', RepM S' s'.2 d → FrM S S' → Q (some (.int 1)) S') : C mX5_comesTold [.ref 25, .int (nI k)] S Q := by
  obtain ⟨t35, t36, t37, hok, hs⟩ := st
  have h8 := g.2.1
  have dgt : ∀ x, 1 ≤ x → x ≤ sgN (ltA lt l p) → ¬ (ltA lt l p = 114 ∧ x = 1) → isDg (ltA lt l (p + x)) := fun x h1 h2 h3 => (okS_d h3).mp (hok x h1 h2)
  have e35 : S 35 (nI k).toNatClampNeg = ltA lt l p := by rw [nIc (by omega)]; exact t35
  have e3 : (3 : Int32) * nI k = nI (3 * k) := by rw [show (3 : Int32) = nI 3 from rfl, nI_mul]
  have v0 : vp_in (3 * nI k) 99 := by rw [e3]; exact vp_in_nI (by omega) (by omega)
  have v1 : vp_in (3 * nI k + 1) 99 := by rw [e3, nI_1]; exact vp_in_nI (by omega) (by omega)
  have v2 : vp_in (3 * nI k + 2) 99 := by rw [e3, show (2 : Int32) = nI 2 from rfl, nI_add]; exact vp_in_nI (by omega) (by omega)
  have g0 : S 37 (3 * nI k).toNatClampNeg = S 37 (3 * k + 0) := by rw [e3, nIc (by omega)]; rfl
  have g1 : S 37 (3 * nI k + 1).toNatClampNeg = S 37 (3 * k + 1) := by rw [e3, nI_1, nIc (by omega)]
  have g2 : S 37 (3 * nI k + 2).toNatClampNeg = S 37 (3 * k + 2) := by rw [e3, show (2 : Int32) = nI 2 from rfl, nI_add, nIc (by omega)]
  have key : T mX5_comesTold Q 10 [some (.ref 25), some (.int (nI k)), some (.int (3 * nI k))] [.int (ltA lt l p)] S := by
    rw [stmK_1] at h0 h1
    unfold stm1 at h0 h1
    dsimp only at h0 h1
    rcases sg_cs hs with hb | hb | hb | hb | hb | hb | hb
    · have q0 := t37 0 (by rw [hb]; decide)
      have q1 := t37 1 (by rw [hb]; decide)
      have w0 : tvl lt l p 0 = ofL (ltA lt l (p + 1)) := by unfold tvl; rw [if_pos ⟨hb, rfl⟩]
      have w1 : tvl lt l p 1 = ltA lt l (p + 2) - 48 := by
        unfold tvl
        rw [if_neg (by omega), if_neg (fun z => by rw [hb] at z; exact absurd z.1 (by decide)), dg1]
      rw [hb] at h0 h1 ⊢
      simp (decide := true) only [reduceIte] at h0 h1
      skip
      repeat' (first | (refine Rules.st H okX5_comesTold [] ?_; (conv => whnf); try (show T _ _ _ [_, _, _] _ _)) | refine br_t (by first | decide | assumption) ?_ | refine br_f (by first | decide | assumption) ?_ | refine br_c (fun _ => ?_) (fun _ => ?_) | refine ⟨by decide, ?_⟩ | refine ⟨by first | assumption | (unfold vp_in; decide) | ((with_reducible (refine vp_in_nI ?_ ?_)) <;> omega), ?_⟩ | fail)
      rw [g0, g1, q0, q1, w0, w1]
      refine X5_comesRoom H R g (fun q => ?_) (fun q S1 R1 F1 => ?_)
      · have h0 := h0 (if_neg (by omega)) S K R rfl FrM.rf
        repeat' (first | (refine Rules.st H okX5_comesTold [] ?_; (conv => whnf); try (show T _ _ _ [_, _, _] _ _)) | refine br_t (by first | decide | assumption) ?_ | refine br_f (by first | decide | assumption) ?_ | refine br_c (fun _ => ?_) (fun _ => ?_) | refine ⟨by decide, ?_⟩ | refine ⟨by first | assumption | (unfold vp_in; decide) | ((with_reducible (refine vp_in_nI ?_ ?_)) <;> omega), ?_⟩ | fail)
        exact h0
      · have h1 := h1 _ (if_pos q) S1 R1 F1
        repeat' (first | (refine Rules.st H okX5_comesTold [] ?_; (conv => whnf); try (show T _ _ _ [_, _, _] _ _)) | refine br_t (by first | decide | assumption) ?_ | refine br_f (by first | decide | assumption) ?_ | refine br_c (fun _ => ?_) (fun _ => ?_) | refine ⟨by decide, ?_⟩ | refine ⟨by first | assumption | (unfold vp_in; decide) | ((with_reducible (refine vp_in_nI ?_ ?_)) <;> omega), ?_⟩ | fail)
        exact h1
    · have tv : ∀ i, tvl lt l p i = ltA lt l (p + 1 + i) - 48 := fun i => by
        unfold tvl
        rw [if_neg (fun z => by rw [hb] at z; exact absurd z.1 (by decide)), if_neg (fun z => by rw [hb] at z; exact absurd z.1 (by decide)), dg1]
      have q0 := t37 0 (by rw [hb]; decide)
      have q1 := t37 1 (by rw [hb]; decide)
      have q2 := t37 2 (by rw [hb]; decide)
      have s2 : sgN (ltA lt l p) = 3 := by rw [hb]; decide
      obtain ⟨e, he, _, e2⟩ := dg_c (dgt 2 (by omega) (by omega) (by omega))
      have nn : ¬ ltA lt l (p + 2) - 48 < 0 := by rw [e2]; exact nI_pos (by omega)
      rw [hb] at h0 h1 ⊢
      simp (decide := true) only [reduceIte] at h0 h1
      skip
      repeat' (first | (refine Rules.st H okX5_comesTold [] ?_; (conv => whnf); try (show T _ _ _ [_, _, _] _ _)) | refine br_t (by first | decide | assumption) ?_ | refine br_f (by first | decide | assumption) ?_ | refine br_c (fun _ => ?_) (fun _ => ?_) | refine ⟨by decide, ?_⟩ | refine ⟨by first | assumption | (unfold vp_in; decide) | ((with_reducible (refine vp_in_nI ?_ ?_)) <;> omega), ?_⟩ | fail)
      rw [g0, g1, g2, q0, q1, q2, tv, tv, tv]
      refine X5_comesMaid H R g (fun q => ?_) (fun i hi em qa ql S1 R1 F1 => ?_)
      · have h0 := h0 (if_neg (fun z => q ⟨z.1, Int32.not_lt.mpr z.2.1.2, z.2.2⟩)) S K R rfl FrM.rf
        repeat' (first | (refine Rules.st H okX5_comesTold [] ?_; (conv => whnf); try (show T _ _ _ [_, _, _] _ _)) | refine br_t (by first | decide | assumption) ?_ | refine br_f (by first | decide | assumption) ?_ | refine br_c (fun _ => ?_) (fun _ => ?_) | refine ⟨by decide, ?_⟩ | refine ⟨by first | assumption | (unfold vp_in; decide) | ((with_reducible (refine vp_in_nI ?_ ?_)) <;> omega), ?_⟩ | fail)
        exact h0
      · have h1 := h1 _ (if_pos ⟨okM_iff.mpr ⟨i, hi, em⟩, ⟨Int32.not_lt.mp nn, Int32.not_lt.mp qa⟩, ql⟩) S1 (by
          rw [show ix (ltA lt l (p + 1) - 48) = i from by rw [show ltA lt l (p + 1) - 48 = nI i from em]; exact nIc (by omega)]
          exact R1) F1
        repeat' (first | (refine Rules.st H okX5_comesTold [] ?_; (conv => whnf); try (show T _ _ _ [_, _, _] _ _)) | refine br_t (by first | decide | assumption) ?_ | refine br_f (by first | decide | assumption) ?_ | refine br_c (fun _ => ?_) (fun _ => ?_) | refine ⟨by decide, ?_⟩ | refine ⟨by first | assumption | (unfold vp_in; decide) | ((with_reducible (refine vp_in_nI ?_ ?_)) <;> omega), ?_⟩ | fail)
        exact h1
    · have q0 := t37 0 (by rw [hb]; decide)
      have q1 := t37 1 (by rw [hb]; decide)
      have s2 : sgN (ltA lt l p) = 4 := by rw [hb]; decide
      obtain ⟨d1, d2⟩ := dg3 (dgt 2 (by omega) (by omega) (by omega)) (dgt 3 (by omega) (by omega) (by omega)) (dgt 4 (by omega) (by omega) (by omega))
      have w0 : tvl lt l p 0 = ltA lt l (p + 1) - 48 := by
        unfold tvl
        rw [if_neg (fun z => by rw [hb] at z; exact absurd z.1 (by decide)), if_neg (by omega), dg1]
      have w1 : tvl lt l p 1 = digV lt l 3 (p + 2) 0 := by
        unfold tvl
        rw [if_neg (by omega), if_pos ⟨hb, rfl⟩]
      rw [hb] at h0 h1 ⊢
      simp (decide := true) only [reduceIte] at h0 h1
      skip
      repeat' (first | (refine Rules.st H okX5_comesTold [] ?_; (conv => whnf); try (show T _ _ _ [_, _, _] _ _)) | refine br_t (by first | decide | assumption) ?_ | refine br_f (by first | decide | assumption) ?_ | refine br_c (fun _ => ?_) (fun _ => ?_) | refine ⟨by decide, ?_⟩ | refine ⟨by first | assumption | (unfold vp_in; decide) | ((with_reducible (refine vp_in_nI ?_ ?_)) <;> omega), ?_⟩ | fail)
      rw [g0, g1, q0, q1, w0, w1]
      refine X5_comesClock H R (fun q => ?_) (fun i hi em S1 R1 F1 => ?_)
      · have h0 := h0 (if_neg q) S K R rfl FrM.rf
        repeat' (first | (refine Rules.st H okX5_comesTold [] ?_; (conv => whnf); try (show T _ _ _ [_, _, _] _ _)) | refine br_t (by first | decide | assumption) ?_ | refine br_f (by first | decide | assumption) ?_ | refine br_c (fun _ => ?_) (fun _ => ?_) | refine ⟨by decide, ?_⟩ | refine ⟨by first | assumption | (unfold vp_in; decide) | ((with_reducible (refine vp_in_nI ?_ ?_)) <;> omega), ?_⟩ | fail)
        exact h0
      · have h1 := h1 _ (if_pos (okM_iff.mpr ⟨i, hi, em⟩)) S1 (by
          rw [show ix (ltA lt l (p + 1) - 48) = i from by rw [em]; exact nIc (by omega), ← d1]
          exact R1) F1
        repeat' (first | (refine Rules.st H okX5_comesTold [] ?_; (conv => whnf); try (show T _ _ _ [_, _, _] _ _)) | refine br_t (by first | decide | assumption) ?_ | refine br_f (by first | decide | assumption) ?_ | refine br_c (fun _ => ?_) (fun _ => ?_) | refine ⟨by decide, ?_⟩ | refine ⟨by first | assumption | (unfold vp_in; decide) | ((with_reducible (refine vp_in_nI ?_ ?_)) <;> omega), ?_⟩ | fail)
        exact h1
    · have tv : ∀ i, tvl lt l p i = ltA lt l (p + 1 + i) - 48 := fun i => by
        unfold tvl
        rw [if_neg (fun z => by rw [hb] at z; exact absurd z.1 (by decide)), if_neg (fun z => by rw [hb] at z; exact absurd z.1 (by decide)), dg1]
      have q0 := t37 0 (by rw [hb]; decide)
      have q1 := t37 1 (by rw [hb]; decide)
      rw [hb] at h0 h1 ⊢
      simp (decide := true) only [reduceIte] at h0 h1
      skip
      repeat' (first | (refine Rules.st H okX5_comesTold [] ?_; (conv => whnf); try (show T _ _ _ [_, _, _] _ _)) | refine br_t (by first | decide | assumption) ?_ | refine br_f (by first | decide | assumption) ?_ | refine br_c (fun _ => ?_) (fun _ => ?_) | refine ⟨by decide, ?_⟩ | refine ⟨by first | assumption | (unfold vp_in; decide) | ((with_reducible (refine vp_in_nI ?_ ?_)) <;> omega), ?_⟩ | fail)
      rw [g0, g1, q0, q1, tv, tv]
      refine X5_comesVisit H R g (fun q => ?_) (fun i j hi hj em er S1 R1 F1 => ?_)
      · have h0 := h0 (if_neg q) S K R rfl FrM.rf
        repeat' (first | (refine Rules.st H okX5_comesTold [] ?_; (conv => whnf); try (show T _ _ _ [_, _, _] _ _)) | refine br_t (by first | decide | assumption) ?_ | refine br_f (by first | decide | assumption) ?_ | refine br_c (fun _ => ?_) (fun _ => ?_) | refine ⟨by decide, ?_⟩ | refine ⟨by first | assumption | (unfold vp_in; decide) | ((with_reducible (refine vp_in_nI ?_ ?_)) <;> omega), ?_⟩ | fail)
        exact h0
      · have em : ltA lt l (p + 1) - 48 = nI i := em
        have er : ltA lt l (p + 2) - 48 = nI j := er
        rw [em, er, show ix (nI i) = i from nIc (by omega), show ix (nI j) = j from nIc (by omega), if_pos ⟨okM_nI hi, okR_nI h8 hj⟩] at h0 h1
        have lm := later_m (K := (visitK K i j).2) hi B (fun m hm hmi => visitK_oc hi hmi)
        refine ⟨fun q => ?_, fun q => ?_⟩
        · have h0 := h0 (if_pos (lm.mpr q)) S1 _ R1 (visitK_s _ _ _) F1
          repeat' (first | (refine Rules.st H okX5_comesTold [] ?_; (conv => whnf); try (show T _ _ _ [_, _, _] _ _)) | refine br_t (by first | decide | assumption) ?_ | refine br_f (by first | decide | assumption) ?_ | refine br_c (fun _ => ?_) (fun _ => ?_) | refine ⟨by decide, ?_⟩ | refine ⟨by first | assumption | (unfold vp_in; decide) | ((with_reducible (refine vp_in_nI ?_ ?_)) <;> omega), ?_⟩ | fail)
          exact h0
        · have h1 := h1 _ (if_neg (fun z => q (lm.mp z))) S1 R1 F1
          repeat' (first | (refine Rules.st H okX5_comesTold [] ?_; (conv => whnf); try (show T _ _ _ [_, _, _] _ _)) | refine br_t (by first | decide | assumption) ?_ | refine br_f (by first | decide | assumption) ?_ | refine br_c (fun _ => ?_) (fun _ => ?_) | refine ⟨by decide, ?_⟩ | refine ⟨by first | assumption | (unfold vp_in; decide) | ((with_reducible (refine vp_in_nI ?_ ?_)) <;> omega), ?_⟩ | fail)
          exact h1
    · have q0 := t37 0 (by rw [hb]; decide)
      have w0 : tvl lt l p 0 = ltA lt l (p + 1) - 48 := by
        unfold tvl
        rw [if_neg (fun z => by rw [hb] at z; exact absurd z.1 (by decide)), if_neg (by omega), dg1]
      rw [hb] at h0 h1 ⊢
      simp (decide := true) only [reduceIte] at h0 h1
      skip
      repeat' (first | (refine Rules.st H okX5_comesTold [] ?_; (conv => whnf); try (show T _ _ _ [_, _, _] _ _)) | refine br_t (by first | decide | assumption) ?_ | refine br_f (by first | decide | assumption) ?_ | refine br_c (fun _ => ?_) (fun _ => ?_) | refine ⟨by decide, ?_⟩ | refine ⟨by first | assumption | (unfold vp_in; decide) | ((with_reducible (refine vp_in_nI ?_ ?_)) <;> omega), ?_⟩ | fail)
      rw [g0, q0, w0]
      refine X5_comesOther H (f := 2) (Or.inr rfl) R g (fun q => ?_) (fun j hj er S1 R1 F1 => ?_)
      · have h0 := h0 (if_neg q) S K R rfl FrM.rf
        repeat' (first | (refine Rules.st H okX5_comesTold [] ?_; (conv => whnf); try (show T _ _ _ [_, _, _] _ _)) | refine br_t (by first | decide | assumption) ?_ | refine br_f (by first | decide | assumption) ?_ | refine br_c (fun _ => ?_) (fun _ => ?_) | refine ⟨by decide, ?_⟩ | refine ⟨by first | assumption | (unfold vp_in; decide) | ((with_reducible (refine vp_in_nI ?_ ?_)) <;> omega), ?_⟩ | fail)
        exact h0
      · have h1 := h1 _ (if_pos (by rw [er]; exact okR_nI h8 hj)) S1 (by
          rw [show ix (ltA lt l (p + 1) - 48) = j from by rw [er]; exact nIc (by omega)]
          exact R1) F1
        repeat' (first | (refine Rules.st H okX5_comesTold [] ?_; (conv => whnf); try (show T _ _ _ [_, _, _] _ _)) | refine br_t (by first | decide | assumption) ?_ | refine br_f (by first | decide | assumption) ?_ | refine br_c (fun _ => ?_) (fun _ => ?_) | refine ⟨by decide, ?_⟩ | refine ⟨by first | assumption | (unfold vp_in; decide) | ((with_reducible (refine vp_in_nI ?_ ?_)) <;> omega), ?_⟩ | fail)
        exact h1
    · have q0 := t37 0 (by rw [hb]; decide)
      have w0 : tvl lt l p 0 = ltA lt l (p + 1) - 48 := by
        unfold tvl
        rw [if_neg (fun z => by rw [hb] at z; exact absurd z.1 (by decide)), if_neg (by omega), dg1]
      rw [hb] at h0 h1 ⊢
      simp (decide := true) only [reduceIte] at h0 h1
      skip
      repeat' (first | (refine Rules.st H okX5_comesTold [] ?_; (conv => whnf); try (show T _ _ _ [_, _, _] _ _)) | refine br_t (by first | decide | assumption) ?_ | refine br_f (by first | decide | assumption) ?_ | refine br_c (fun _ => ?_) (fun _ => ?_) | refine ⟨by decide, ?_⟩ | refine ⟨by first | assumption | (unfold vp_in; decide) | ((with_reducible (refine vp_in_nI ?_ ?_)) <;> omega), ?_⟩ | fail)
      rw [g0, q0, w0]
      refine X5_comesOther H (f := 1) (Or.inl rfl) R g (fun q => ?_) (fun j hj er S1 R1 F1 => ?_)
      · have h0 := h0 (if_neg q) S K R rfl FrM.rf
        repeat' (first | (refine Rules.st H okX5_comesTold [] ?_; (conv => whnf); try (show T _ _ _ [_, _, _] _ _)) | refine br_t (by first | decide | assumption) ?_ | refine br_f (by first | decide | assumption) ?_ | refine br_c (fun _ => ?_) (fun _ => ?_) | refine ⟨by decide, ?_⟩ | refine ⟨by first | assumption | (unfold vp_in; decide) | ((with_reducible (refine vp_in_nI ?_ ?_)) <;> omega), ?_⟩ | fail)
        exact h0
      · have h1 := h1 _ (if_pos (by rw [er]; exact okR_nI h8 hj)) S1 (by
          rw [show ix (ltA lt l (p + 1) - 48) = j from by rw [er]; exact nIc (by omega)]
          exact R1) F1
        repeat' (first | (refine Rules.st H okX5_comesTold [] ?_; (conv => whnf); try (show T _ _ _ [_, _, _] _ _)) | refine br_t (by first | decide | assumption) ?_ | refine br_f (by first | decide | assumption) ?_ | refine br_c (fun _ => ?_) (fun _ => ?_) | refine ⟨by decide, ?_⟩ | refine ⟨by first | assumption | (unfold vp_in; decide) | ((with_reducible (refine vp_in_nI ?_ ?_)) <;> omega), ?_⟩ | fail)
        exact h1
    · have q0 := t37 0 (by rw [hb]; decide)
      have w0 : tvl lt l p 0 = ltA lt l (p + 1) - 48 := by
        unfold tvl
        rw [if_neg (fun z => by rw [hb] at z; exact absurd z.1 (by decide)), if_neg (by omega), dg1]
      rw [hb] at h0 h1 ⊢
      simp (decide := true) only [reduceIte] at h0 h1
      skip
      repeat' (first | (refine Rules.st H okX5_comesTold [] ?_; (conv => whnf); try (show T _ _ _ [_, _, _] _ _)) | refine br_t (by first | decide | assumption) ?_ | refine br_f (by first | decide | assumption) ?_ | refine br_c (fun _ => ?_) (fun _ => ?_) | refine ⟨by decide, ?_⟩ | refine ⟨by first | assumption | (unfold vp_in; decide) | ((with_reducible (refine vp_in_nI ?_ ?_)) <;> omega), ?_⟩ | fail)
      rw [g0, q0, w0]
      refine X5_comesBoth H R g (fun q => ?_) (fun j hj er S1 R1 F1 => ?_)
      · have h0 := h0 (if_neg q) S K R rfl FrM.rf
        repeat' (first | (refine Rules.st H okX5_comesTold [] ?_; (conv => whnf); try (show T _ _ _ [_, _, _] _ _)) | refine br_t (by first | decide | assumption) ?_ | refine br_f (by first | decide | assumption) ?_ | refine br_c (fun _ => ?_) (fun _ => ?_) | refine ⟨by decide, ?_⟩ | refine ⟨by first | assumption | (unfold vp_in; decide) | ((with_reducible (refine vp_in_nI ?_ ?_)) <;> omega), ?_⟩ | fail)
        exact h0
      · rw [er, show ix (nI j) = j from nIc (by omega), if_pos (okR_nI h8 hj)] at h0 h1
        refine ⟨fun q => ?_, fun q => ?_⟩
        · have h0 := h0 (if_pos q) S1 _ R1 (bothK_s _ _) F1
          repeat' (first | (refine Rules.st H okX5_comesTold [] ?_; (conv => whnf); try (show T _ _ _ [_, _, _] _ _)) | refine br_t (by first | decide | assumption) ?_ | refine br_f (by first | decide | assumption) ?_ | refine br_c (fun _ => ?_) (fun _ => ?_) | refine ⟨by decide, ?_⟩ | refine ⟨by first | assumption | (unfold vp_in; decide) | ((with_reducible (refine vp_in_nI ?_ ?_)) <;> omega), ?_⟩ | fail)
          exact h0
        · have h1 := h1 _ (if_neg q) S1 R1 F1
          repeat' (first | (refine Rules.st H okX5_comesTold [] ?_; (conv => whnf); try (show T _ _ _ [_, _, _] _ _)) | refine br_t (by first | decide | assumption) ?_ | refine br_f (by first | decide | assumption) ?_ | refine br_c (fun _ => ?_) (fun _ => ?_) | refine ⟨by decide, ?_⟩ | refine ⟨by first | assumption | (unfold vp_in; decide) | ((with_reducible (refine vp_in_nI ?_ ?_)) <;> omega), ?_⟩ | fail)
          exact h1
  refine Rules.go H (by decide) (Nat.le_of_ble_eq_true rfl) ?_
  repeat' (first | (refine Rules.st H okX5_comesTold [10] ?_; (conv => whnf); try (show T _ _ _ [_, _, _] _ _)) | refine br_t (by first | decide | assumption) ?_ | refine br_f (by first | decide | assumption) ?_ | refine br_c (fun _ => ?_) (fun _ => ?_) | refine ⟨by decide, ?_⟩ | refine ⟨by first | assumption | (unfold vp_in; decide) | ((with_reducible (refine vp_in_nI ?_ ?_)) <;> omega), ?_⟩ | fail)
  rw [e35]
  exact Halt.mk key
end M44
