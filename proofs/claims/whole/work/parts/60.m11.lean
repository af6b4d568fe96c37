section M11
variable {C : Cst} {T : Nat → Pst → Nat → Lcs → List Value → Mem → Prop}
set_option maxRecDepth 100000 in
theorem knockK_k (K : Mem) (m r : Nat) (w : Int32) (j : Nat) : (knockK K m r w).2 1 j = K 1 j := by
  unfold knockK
  dsimp only
  repeat' split
  all_goals simp [cleanK, fetchK, passK, up]
set_option maxRecDepth 100000 in
theorem visitK_k (K : Mem) (m r j : Nat) : (visitK K m r).2 1 j = K 1 j := by
  unfold visitK
  rw [knockK_k]
  simp [walkK, passK, up]
def frsK (K0 : Mem) (m k i : Nat) (K : Mem) (x : Int32) : Int32 := if x < 0 then firstK K0 m k i K else x
set_option maxRecDepth 100000 in
theorem X5_longMinutes_l (H : Rules C T) {n m : Nat} {d was : Int32} (hm : m < 2) {K0 : Mem} {Q : Pst} : ∀ (k i : Nat) (S K : Mem) (y : Option Value), i + k = n → RepM S K d → Gd K n → (∀ j, K 1 j = K0 1 j) → (S 25 33 = -9 ∨ ¬ S 25 33 < 0) → (∀ S' y', RepM S' (lngK m k i K) d → ScMY 0 S S' → (∀ j, S' 38 j = S 38 j) → S' 25 33 = frsK K0 m k i K (S 25 33) → T mX5_longMinutes Q 102 [some (.ref 25), some (.int (nI m)), some (.int was), some (.int (nI n)), y'] [] S') → T mX5_longMinutes Q 24 [some (.ref 25), some (.int (nI m)), some (.int was), some (.int (nI i)), y] [] S := by
  intro k
  induction k with
  | zero =>
    intro i S K y hi R g hk hx h1
    have h8 := g.2.1
    have hge : S 25 8 ≤ nI i := by rw [R.rm, g.1]; exact nI_le (by omega) (by omega)
    have h1 := h1 S y R (ScMY.fr FrM.rf) (fun _ => rfl) (by
      unfold frsK
      split
      · rcases hx with e | e
        · exact e
        · exact absurd ‹_› e
      · rfl)
    rw [show n = i by omega] at h1
    skip
    repeat' (first | (refine Rules.st H okX5_longMinutes [24, 102] ?_; conv => whnf) | refine br_t (by first | decide | assumption) ?_ | refine br_f (by first | decide | assumption) ?_ | refine br_c (fun _ => ?_) (fun _ => ?_) | refine ⟨by decide, ?_⟩ | refine ⟨by first | assumption | (unfold vp_in; decide) | ((with_reducible (refine vp_in_nI ?_ ?_)) <;> omega), ?_⟩ | fail)
    exact Halt.mk h1
  | succ k ih =>
    intro i S K y hi R g hk hx h1
    have h8 := g.2.1
    have hge : ¬ S 25 8 ≤ nI i := by rw [R.rm, g.1]; exact nI_ge (by omega) (by omega)
    have ci : (nI i).toNatClampNeg = i := nIc (by omega)
    have ekd : S 27 (nI i).toNatClampNeg = K0 1 i := by rw [ci, R.kd (by omega), hk]
    have go : ∀ (S' : Mem) (y' : Option Value), RepM S' (visitK K m i).2 d → ScMY 0 S S' → (∀ j, S' 38 j = S 38 j) → (S' 25 33 = -9 ∨ ¬ S' 25 33 < 0) → frsK K0 m k (i + 1) (visitK K m i).2 (S' 25 33) = frsK K0 m (k + 1) i K (S 25 33) → T mX5_longMinutes Q 24 [some (.ref 25), some (.int (nI m)), some (.int was), some (.int (nI i + 1)), y'] [] S' := fun S' y' R' F' e38 hx' ef => by
      rw [nI_1]
      refine ih (i + 1) S' _ y' (by omega) R' (g.visit (by omega)) (fun j => by rw [visitK_k, hk]) hx' (fun S'' y'' R'' F'' e38' e => ?_)
      exact h1 S'' y'' R'' (F'.tr F'') (fun j => by rw [e38', e38]) (e.trans ef)
    have tl : ∀ hl : Int32, (hl = 1 ∧ (K0 1 i = 1 ∨ K0 1 i = 3 ∨ K0 1 i = 5)) ∨ (hl = 0 ∧ ¬ (K0 1 i = 1 ∨ K0 1 i = 3 ∨ K0 1 i = 5)) → T mX5_longMinutes Q 69 [some (.ref 25), some (.int (nI m)), some (.int was), some (.int (nI i)), some (.int hl)] [] S := fun hl hh => by
      skip
      repeat' (first | (refine Rules.st H okX5_longMinutes [24, 102] ?_; conv => whnf) | refine br_t (by first | decide | assumption) ?_ | refine br_f (by first | decide | assumption) ?_ | refine br_c (fun _ => ?_) (fun _ => ?_) | refine ⟨by decide, ?_⟩ | refine ⟨by first | assumption | (unfold vp_in; decide) | ((with_reducible (refine vp_in_nI ?_ ?_)) <;> omega), ?_⟩ | fail)
      refine X5_visit H R g hm (by omega) (fun S1 R1 F1 => ?_)
      have e33 : S1 25 33 = S 25 33 := F1 25 33 (by unfold inM; omega)
      have e38 : ∀ j, S1 38 j = S 38 j := fun j => F1 38 j (by unfold inM; omega)
      have no : ¬ (S 25 33 < 0 ∧ (visitK K m i).1 = 3 ∧ (K0 1 i = 1 ∨ K0 1 i = 3 ∨ K0 1 i = 5)) → frsK K0 m k (i + 1) (visitK K m i).2 (S1 25 33) = frsK K0 m (k + 1) i K (S 25 33) := fun z => by
        rw [e33]
        unfold frsK
        by_cases q : S 25 33 < 0
        · rw [if_pos q, if_pos q, firstK, if_neg (fun z2 => z ⟨q, z2⟩)]
        · rw [if_neg q, if_neg q]
      have stay := fun z => go S1 (some (.int hl)) R1 (ScMY.fr F1) e38 (by rw [e33]; exact hx) (no z)
      have set : S 25 33 < 0 → (visitK K m i).1 = 3 → (K0 1 i = 1 ∨ K0 1 i = 3 ∨ K0 1 i = 5) → T mX5_longMinutes Q 24 [some (.ref 25), some (.int (nI m)), some (.int was), some (.int (nI i + 1)), some (.int hl)] [] (up S1 25 33 (nI i)) := fun z1 z2 z3 => by
        have p0 : ¬ nI i < 0 := nI_pos (by omega)
        refine go _ _ (R1.o (by unfold inM; omega)) ((ScMY.fr F1).tr (ScMY.put (by unfold scrM; omega))) (fun j => by rw [up_k (by omega), e38]) (Or.inr (by rw [up_at]; exact p0)) ?_
        rw [up_at]
        unfold frsK
        rw [if_neg p0, if_pos z1, firstK, if_pos ⟨z2, z3⟩]
      repeat' (first | (refine Rules.st H okX5_longMinutes [24, 102] ?_; conv => whnf) | refine br_t (by first | decide | assumption) ?_ | refine br_f (by first | decide | assumption) ?_ | refine br_c (fun _ => ?_) (fun _ => ?_) | refine ⟨by decide, ?_⟩ | refine ⟨by first | assumption | (unfold vp_in; decide) | ((with_reducible (refine vp_in_nI ?_ ?_)) <;> omega), ?_⟩ | fail)
      all_goals first
        | exact Halt.mk (stay (fun z => absurd z.2.1 (by assumption)))
        | (rcases hh with ⟨g1, g2⟩ | ⟨g1, g2⟩
           · first
             | (subst g1; exact absurd (by assumption) (show ¬ (1 : Int32) = 0 by decide))
             | exact Halt.mk (stay (fun z => absurd z.1 (by rw [← e33]; first | assumption | exact Int32.not_lt.mpr (by assumption))))
             | exact Halt.mk (set (by rw [← e33]; first | assumption | exact Int32.not_le.mp (by assumption)) (by assumption) g2)
           · first
             | exact Halt.mk (stay (fun z => g2 z.2.2))
             | exact absurd g1 (by assumption))
    skip
    repeat' (first | (refine Rules.st H okX5_longMinutes [24, 69, 102] ?_; conv => whnf) | refine br_t (by first | decide | assumption) ?_ | refine br_f (by first | decide | assumption) ?_ | refine br_c (fun _ => ?_) (fun _ => ?_) | refine ⟨by decide, ?_⟩ | refine ⟨by first | assumption | (unfold vp_in; decide) | ((with_reducible (refine vp_in_nI ?_ ?_)) <;> omega), ?_⟩ | fail)
    all_goals first
      | exact Halt.mk (tl 1 (Or.inl ⟨rfl, Or.inl (by rw [← ekd]; assumption)⟩))
      | exact Halt.mk (tl 1 (Or.inl ⟨rfl, Or.inr (Or.inl (by rw [← ekd]; assumption))⟩))
      | exact Halt.mk (tl 1 (Or.inl ⟨rfl, Or.inr (Or.inr (by rw [← ekd]; assumption))⟩))
      | exact Halt.mk (tl 0 (Or.inr ⟨rfl, by rw [← ekd]; rintro (e | e | e) <;> exact absurd e (by assumption)⟩))
end M11
