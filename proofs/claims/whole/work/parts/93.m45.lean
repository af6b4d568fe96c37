section M45
variable {C : Cst} {T : Nat → Pst → Nat → Lcs → List Value → Mem → Prop}
set_option maxRecDepth 100000 in
theorem StM.sc' {S S' : Mem} {i : Nat} {lt : Nat → Int32} {l p : Nat} (h : StM S i lt l p) (h35 : ∀ j, S' 35 j = S 35 j) (h36 : ∀ j, S' 36 j = S 36 j) (h37 : ∀ j, S' 37 j = S 37 j) : StM S' i lt l p := ⟨(h35 i).trans h.1, (h36 i).trans h.2.1, fun x hx => (h37 _).trans (h.2.2.1 x hx), h.2.2.2⟩
set_option maxRecDepth 100000 in
theorem StM.frM {S S' : Mem} {i : Nat} {lt : Nat → Int32} {l p : Nat} (h : StM S i lt l p) (F : FrM S S') : StM S' i lt l p := h.sc' (fun j => F 35 j (by unfold inM; omega)) (fun j => F 36 j (by unfold inM; omega)) (fun j => F 37 j (by unfold inM; omega))
set_option maxRecDepth 100000 in
theorem StM.frP {w : Nat} {S S' : Mem} {i : Nat} {lt : Nat → Int32} {l p : Nat} (h : StM S i lt l p) (F : FrP w S S') : StM S' i lt l p := h.sc' (fun j => F 35 j (by omega) (by omega)) (fun j => F 36 j (by omega) (by omega)) (fun j => F 37 j (by omega) (by omega))
set_option maxRecDepth 100000 in
theorem X5_cor_2 (H : Rules C T) {lt : Nat → Int32} {l t : Nat} (ht : t ≤ 32) {S0 : Mem} {Q : Pst} : ∀ (q : List Nat) (i : Nat) (s : NK) (S : Mem) (d : Int32), i + q.length = t → (∀ j, j < q.length → StM S (i + j) lt l (gN q j)) → S 25 15 = nI t → RepM S s.2 d → Gd s.2 s.1 → BK 999 s.2 → KeptM 1 S S0 → (∀ p, tellK lt l q s = .inl p → ∀ S' K', RepM S' K' d → K' 0 3 = s.2 0 3 → FrM S S' → ∀ S'', (∀ a j, inP a j → S'' a j = S0 a j) → (∀ a j, ¬ inP a j → ¬ (a = 25 ∧ (j = 19 ∨ j = 20)) → S'' a j = S' a j) → Q (some (.int (-2000 - nI p))) S'') → (∀ s', tellK lt l q s = .inr s' → Gd s'.2 s'.1 → BK 999 s'.2 → s'.2 0 3 = s.2 0 3 → ∀ S', RepM S' s'.2 d → FrM S S' → Q (some (.int (nI t))) S') → T mX5_corridor Q 86 [some (.ref 25), some (.int 1), some (.int (nI i))] [] S := by
  intro q
  induction q with
  | nil =>
    intro i s S d hi hst e15 R g B k1 h0 h1
    have hge : S 25 15 ≤ nI i := by rw [e15]; exact nI_le (by simp at hi; omega) (by omega)
    have h1 := h1 s rfl g B rfl S R FrM.rf
    rw [← e15] at h1
    skip
    repeat' (first | (refine Rules.st H okX5_corridor [86] ?_; (conv => whnf); try (show T _ _ _ [_, _, _] _ _)) | refine br_t (by first | decide | assumption) ?_ | refine br_f (by first | decide | assumption) ?_ | refine br_c (fun _ => ?_) (fun _ => ?_) | refine ⟨by decide, ?_⟩ | refine ⟨by first | assumption | (unfold vp_in; decide) | ((with_reducible (refine vp_in_nI ?_ ?_)) <;> omega), ?_⟩ | fail)
    exact h1
  | cons p q ih =>
    intro i s S d hi hst e15 R g B k1 h0 h1
    simp only [List.length_cons] at hi hst
    have hge : ¬ S 25 15 ≤ nI i := by rw [e15]; exact nI_ge (by omega) (by omega)
    have st := hst 0 (by omega)
    rw [Nat.add_zero, show gN (p :: q) 0 = p from rfl] at st
    obtain ⟨n, K⟩ := s
    unfold tellK at h0 h1
    skip
    repeat' (first | (refine Rules.st H okX5_corridor [86] ?_; (conv => whnf); try (show T _ _ _ [_, _, _] _ _)) | refine br_t (by first | decide | assumption) ?_ | refine br_f (by first | decide | assumption) ?_ | refine br_c (fun _ => ?_) (fun _ => ?_) | refine ⟨by decide, ?_⟩ | refine ⟨by first | assumption | (unfold vp_in; decide) | ((with_reducible (refine vp_in_nI ?_ ?_)) <;> omega), ?_⟩ | fail)
    refine X5_comesTold H (by omega) st R g B (fun e S1 K1 R1 e3 F1 => ?_) (fun s' e S1 R1 F1 => ?_)
    · rw [e] at h0
      repeat' (first | (refine Rules.st H okX5_corridor [86] ?_; (conv => whnf); try (show T _ _ _ [_, _, _] _ _)) | refine br_t (by first | decide | assumption) ?_ | refine br_f (by first | decide | assumption) ?_ | refine br_c (fun _ => ?_) (fun _ => ?_) | refine ⟨by decide, ?_⟩ | refine ⟨by first | assumption | (unfold vp_in; decide) | ((with_reducible (refine vp_in_nI ?_ ?_)) <;> omega), ?_⟩ | fail)
      refine X5_passesAll_B H (w := 1) (by omega) (k1.fr F1) (fun S3 b1 b2 => ?_)
      have h0 := h0 p rfl S1 K1 R1 e3 F1 S3 b1 b2
      have e36 : S3 36 (nI i).toNatClampNeg = nI p := by
        rw [nIc (by omega), b2 36 _ (by unfold inP; omega) (by omega), F1 36 _ (by unfold inM; omega)]
        exact st.2.1
      rw [← e36] at h0
      repeat' (first | (refine Rules.st H okX5_corridor [86] ?_; (conv => whnf); try (show T _ _ _ [_, _, _] _ _)) | refine br_t (by first | decide | assumption) ?_ | refine br_f (by first | decide | assumption) ?_ | refine br_c (fun _ => ?_) (fun _ => ?_) | refine ⟨by decide, ?_⟩ | refine ⟨by first | assumption | (unfold vp_in; decide) | ((with_reducible (refine vp_in_nI ?_ ?_)) <;> omega), ?_⟩ | fail)
      exact h0
    · rw [e] at h0 h1
      obtain ⟨g1, B1, e3⟩ := stm_ok e st.2.2.2.1 g B
      repeat' (first | (refine Rules.st H okX5_corridor [86] ?_; (conv => whnf); try (show T _ _ _ [_, _, _] _ _)) | refine br_t (by first | decide | assumption) ?_ | refine br_f (by first | decide | assumption) ?_ | refine br_c (fun _ => ?_) (fun _ => ?_) | refine ⟨by decide, ?_⟩ | refine ⟨by first | assumption | (unfold vp_in; decide) | ((with_reducible (refine vp_in_nI ?_ ?_)) <;> omega), ?_⟩ | fail)
      refine Halt.mk ?_
      rw [nI_1]
      refine ih (i + 1) s' S1 d (by omega) (fun j hj => ?_) (by rw [F1 25 15 (by unfold inM; omega)]; exact e15) R1 g1 B1 (k1.fr F1) (fun p' hp S' K' R' e' F' => h0 p' hp S' K' R' (e'.trans e3) (F1.tr F')) (fun s2 hs g2 B2 e' S' R' F' => h1 s2 hs g2 B2 (e'.trans e3) S' R' (F1.tr F'))
      have := (hst (j + 1) (by omega)).frM F1
      rw [show i + (j + 1) = i + 1 + j by omega] at this
      exact this
/-- behind a corridor's telling: the reference holds the corridor, no letters -/
def exCorM (a j : Nat) : Prop := a = 25 ∧ j = 13
set_option maxRecDepth 100000 in
theorem X5_corridor (H : Rules C T) {S K : Mem} {n : Nat} (X : XM S K n) (B : BK 999 K) {lt : Nat → Int32} {l : Nat} (hl : l ≤ 96) (e13 : S 25 13 = nI l) (e34 : ∀ j, j < l → S 34 j = lt j) {Q : Pst} (h : ∀ S', (∃ d, RepM S' (F_corr lt l (n, K)).2.2 d) → Gd (F_corr lt l (n, K)).2.2 (F_corr lt l (n, K)).2.1 → BK 999 (F_corr lt l (n, K)).2.2 → S' 25 13 = 0 → (∀ a j, ¬ scrM a j → ¬ inM a j → ¬ (a = 25 ∧ j = 13) → S' a j = S a j) → Q (some (.int (F_corr lt l (n, K)).1)) S') : C mX5_corridor [.ref 25] S Q := by
  obtain ⟨⟨d, R⟩, g, hz⟩ := X
  have h8 := g.2.1
  have bad : ∀ w, scan lt l = .inl w → ∀ S1, S1 25 14 = nI w → ScM 0 S S1 → T mX5_corridor Q 60 [some (.ref 25), some (.int 0), none] [] S1 := fun w hs S1 e14 s1 => by
    have e : F_corr lt l (n, K) = (-1000 - nI w, (n, K)) := by unfold F_corr; rw [hs]
    rw [e] at h
    obtain ⟨d1, R1⟩ := s1.rep R
    have h := h (up S1 25 13 0) ⟨d1, R1.o (by unfold inM; omega)⟩ g B up_at (fun a j g1 g2 g3 => by
      unfold up
      rw [if_neg g3]
      exact s1.at g1)
    have ee : up S1 25 13 0 25 14 = nI w := by rw [up_j (by omega)]; exact e14
    rw [← ee] at h
    skip
    repeat' (first | (refine Rules.st H okX5_corridor [] ?_; (conv => whnf); try (show T _ _ _ [_, _, _] _ _)) | refine br_t (by first | decide | assumption) ?_ | refine br_f (by first | decide | assumption) ?_ | refine br_c (fun _ => ?_) (fun _ => ?_) | refine ⟨by decide, ?_⟩ | refine ⟨by first | assumption | (unfold vp_in; decide) | ((with_reducible (refine vp_in_nI ?_ ?_)) <;> omega), ?_⟩ | fail)
    exact h
  have good : ∀ q, scan lt l = .inr q → ∀ S1, S1 25 15 = nI q.length → q.length ≤ 32 → (∀ i, i < q.length → StM S1 i lt l (gN q i)) → ScM 0 S S1 → T mX5_corridor Q 60 [some (.ref 25), some (.int 1), none] [] S1 := fun q hs S1 e15 hq st s1 => by
    obtain ⟨d1, R1⟩ := s1.rep R
    have R2 : RepM (up S1 25 13 0) K d1 := R1.o (by unfold inM; omega)
    have st2 : ∀ i, i < q.length → StM (up S1 25 13 0) i lt l (gN q i) := fun i hi => (st i hi).sc' (fun j => up_k (by omega)) (fun j => up_k (by omega)) (fun j => up_k (by omega))
    have e2 : up S1 25 13 0 25 15 = nI q.length := by rw [up_j (by omega)]; exact e15
    have e3 : up S1 25 13 0 25 13 = 0 := up_at
    have o2 : ∀ a j, ¬ scrM a j → ¬ (a = 25 ∧ j = 13) → up S1 25 13 0 a j = S a j := fun a j g1 g3 => by
      unfold up
      rw [if_neg g3]
      exact s1.at g1
    skip
    repeat' (first | (refine Rules.st H okX5_corridor [86] ?_; (conv => whnf); try (show T _ _ _ [_, _, _] _ _)) | refine br_t (by first | decide | assumption) ?_ | refine br_f (by first | decide | assumption) ?_ | refine br_c (fun _ => ?_) (fun _ => ?_) | refine ⟨by decide, ?_⟩ | refine ⟨by first | assumption | (unfold vp_in; decide) | ((with_reducible (refine vp_in_nI ?_ ?_)) <;> omega), ?_⟩ | fail)
    generalize up S1 25 13 0 = S2 at R2 st2 e2 e3 o2 ⊢
    refine X5_passesAll_K H (w := 1) (by omega) (fun S3 k3 f3 => ?_)
    repeat' (first | (refine Rules.st H okX5_corridor [86] ?_; (conv => whnf); try (show T _ _ _ [_, _, _] _ _)) | refine br_t (by first | decide | assumption) ?_ | refine br_f (by first | decide | assumption) ?_ | refine br_c (fun _ => ?_) (fun _ => ?_) | refine ⟨by decide, ?_⟩ | refine ⟨by first | assumption | (unfold vp_in; decide) | ((with_reducible (refine vp_in_nI ?_ ?_)) <;> omega), ?_⟩ | fail)
    refine Halt.mk ?_
    refine X5_cor_2 H (lt := lt) (l := l) hq q 0 (n, K) S3 d1 (by omega) (fun j hj => ?_) (by rw [f3 25 15 (by omega) (by omega)]; exact e2) (R2.frP f3) g B k3 (fun p hp S4 K4 R4 e4 F4 S5 b1 b2 => ?_) (fun s' hs' g' B' e' S4 R4 F4 => ?_)
    · rw [Nat.zero_add]
      exact (st2 j hj).frP f3
    · have e : F_corr lt l (n, K) = (-2000 - nI p, (n, K)) := by unfold F_corr; rw [hs]; dsimp only; rw [hp]
      rw [e] at h
      have s5 : ScM 0 S2 S5 := back (by omega) f3 (ScMY.fr F4) (by rw [R4.st, R2.st, e4]) b1 b2
      obtain ⟨d5, R5⟩ := s5.rep R2
      exact h S5 ⟨d5, R5⟩ g B (by rw [s5.at (by unfold scrM; omega)]; exact e3) (fun a j g1 g2 g3 => by rw [s5.at g1]; exact o2 a j g1 g3)
    · have e : F_corr lt l (n, K) = (nI q.length, (s'.1, freshK s'.2)) := by unfold F_corr; rw [hs]; dsimp only; rw [hs']
      rw [e] at h
      have y4 : ScMY 0 S2 S4 := ScMY.frP (by omega) f3 (ScMY.fr F4)
      refine h S4 (R4.fresh (e'.trans hz.1)) ?_ ?_ ?_ (fun a j g1 g2 g3 => ?_)
      · unfold freshK
        exact (g'.u (by omega)).u (by omega)
      · unfold freshK
        exact (B'.u (by omega)).u (by omega)
      · have := y4 25 13 (by unfold scrM; omega) (by unfold inM; omega)
        rw [if_neg (fun z => z.2.2 rfl)] at this
        rw [this, e3]
      · have := y4 a j g1 g2
        rw [if_neg (fun z => z.2.2 rfl)] at this
        rw [this, o2 a j g1 g3]
  have X1 : RdM (up (up S 25 14 0) 25 15 0) lt l 0 := ⟨hl, by rw [up_j (by omega), up_j (by omega)]; exact e13, fun j hj => by rw [up_k (by omega), up_k (by omega)]; exact e34 j hj, by rw [up_j (by omega), up_at]; rfl⟩
  have c1 : ScM 0 S (up (up S 25 14 0) 25 15 0) := ScM.puts (by unfold scrM; omega) (ScM.puts (by unfold scrM; omega) ScM.rf)
  have ek : up (up S 25 14 0) 25 15 0 25 15 = nI 0 := up_at
  by_cases l0 : l = 0
  · subst l0
    refine Rules.go H (by decide) (Nat.le_of_ble_eq_true rfl) ?_
    repeat' (first | (refine Rules.st H okX5_corridor [12] ?_; (conv => whnf); try (show T _ _ _ [_, _, _] _ _)) | refine br_t (by first | decide | assumption) ?_ | refine br_f (by first | decide | assumption) ?_ | refine br_c (fun _ => ?_) (fun _ => ?_) | refine ⟨by decide, ?_⟩ | refine ⟨by first | assumption | (unfold vp_in; decide) | ((with_reducible (refine vp_in_nI ?_ ?_)) <;> omega), ?_⟩ | fail)
    generalize up (up S 25 14 0) 25 15 0 = S1 at X1 c1 ek ⊢
    have z1 : ¬ S1 25 14 < S1 25 13 := by rw [X1.2.1, X1.2.2.2]; decide
    have z2 : S1 25 15 = 0 := ek
    refine Halt.mk ?_
    skip
    repeat' (first | (refine Rules.st H okX5_corridor [60] ?_; (conv => whnf); try (show T _ _ _ [_, _, _] _ _)) | refine br_t (by first | decide | assumption) ?_ | refine br_f (by first | decide | assumption) ?_ | refine br_c (fun _ => ?_) (fun _ => ?_) | refine ⟨by decide, ?_⟩ | refine ⟨by first | assumption | (unfold vp_in; decide) | ((with_reducible (refine vp_in_nI ?_ ?_)) <;> omega), ?_⟩ | fail)
    refine X5_statement H X1 (by omega) ek (by omega) (fun w ew S2 X2 F2 => ?_) (fun ew => ?_)
    · have hw : w = 0 := by
        unfold wis at ew
        rw [if_pos (show sgN (ltA lt 0 0) = 0 by rw [show ltA lt 0 0 = -1 from if_neg (by omega)]; decide)] at ew
        cases ew; rfl
      subst hw
      have bad := bad 0 rfl (up S2 25 15 (S2 25 15 + 0)) (by rw [up_j (by omega)]; exact X2.2.2.2) ((c1.tr F2.sc).tr (ScM.puts (a := 25) (j := 15) (v := S2 25 15 + 0) (by unfold scrM; omega) ScM.rf))
      repeat' (first | (refine Rules.st H okX5_corridor [60] ?_; (conv => whnf); try (show T _ _ _ [_, _, _] _ _)) | refine br_t (by first | decide | assumption) ?_ | refine br_f (by first | decide | assumption) ?_ | refine br_c (fun _ => ?_) (fun _ => ?_) | refine ⟨by decide, ?_⟩ | refine ⟨by first | assumption | (unfold vp_in; decide) | ((with_reducible (refine vp_in_nI ?_ ?_)) <;> omega), ?_⟩ | fail)
      exact Halt.mk bad
    · exfalso
      unfold wis at ew
      rw [if_pos (show sgN (ltA lt 0 0) = 0 by rw [show ltA lt 0 0 = -1 from if_neg (by omega)]; decide)] at ew
      cases ew
  · have hsc : scan lt l = scn lt l l 0 := by unfold scan; rw [if_neg l0]
    refine Rules.go H (by decide) (Nat.le_of_ble_eq_true rfl) ?_
    repeat' (first | (refine Rules.st H okX5_corridor [12] ?_; (conv => whnf); try (show T _ _ _ [_, _, _] _ _)) | refine br_t (by first | decide | assumption) ?_ | refine br_f (by first | decide | assumption) ?_ | refine br_c (fun _ => ?_) (fun _ => ?_) | refine ⟨by decide, ?_⟩ | refine ⟨by first | assumption | (unfold vp_in; decide) | ((with_reducible (refine vp_in_nI ?_ ?_)) <;> omega), ?_⟩ | fail)
    generalize up (up S 25 14 0) 25 15 0 = S1 at X1 c1 ek ⊢
    refine Halt.mk ?_
    exact X5_cor_l H (by omega) l 0 0 [] S1 X1 ek rfl (fun i hi => by omega) (by omega) (by omega) (Or.inr rfl) (by omega) (fun w hw S2 e2 s2 => bad w (hsc.trans hw) S2 e2 (c1.tr s2)) (fun q hq S2 e2 l2 st2 s2 => good q (hsc.trans hq) S2 (by rw [e2, Nat.zero_add]) (by omega) (fun i hi => st2 i (by omega)) (c1.tr s2))
end M45
