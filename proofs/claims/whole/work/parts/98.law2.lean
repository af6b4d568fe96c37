/-! THE LAW, call by call -/
section LAW2
variable {C : Cst} {T : Nat → Pst → Nat → Lcs → List Value → Mem → Prop} {TL : Nat → Lcs → List Value → Mem → Prop} {L : Nat} {xs : Nat → Int32}
set_option maxRecDepth 100000 in
theorem LC_letter (H : Rules C T) (HL : RulesL C (some (L, xs)) TL) {i : Nat} (hi : i + 5 ≤ L) (hL : L ≤ 2560) {S : Mem} (R : Rel S) (nx : ∀ S', Rel S' → TL 1435 [some (.ref 99), some (.ref 0), some (.ref 25), some (.int (nI i))] [] S') : TL 216 [some (.ref 99), some (.ref 0), some (.ref 25), some (.int (nI i))] [] S := by
  obtain ⟨K, n, row, q, lt, l, D⟩ := R
  have v1 : vp_in (nI i + 1) L := by rw [nI_1]; exact vp_in_nI (by omega) (by omega)
  have v2 : vp_in (nI i + 2) L := by rw [show nI i + 2 = nI (i + 2) from nI_add i 2]; exact vp_in_nI (by omega) (by omega)
  have v3 : vp_in (nI i + 3) L := by rw [show nI i + 3 = nI (i + 3) from nI_add i 3]; exact vp_in_nI (by omega) (by omega)
  have v4 : vp_in (nI i + 4) L := by rw [show nI i + 4 = nI (i + 4) from nI_add i 4]; exact vp_in_nI (by omega) (by omega)
  have U := D.2.2.2.2.2.1
  have tm := D.2.2.2.2.2.2.1
  have tp := D.2.2.2.2.2.2.2.1
  repeat' (first | (with_reducible refine ⟨v1, ?_⟩) | (with_reducible refine ⟨v2, ?_⟩) | (with_reducible refine ⟨v3, ?_⟩) | (with_reducible refine ⟨v4, ?_⟩) | (refine HL [1435] _ _ _ _ ?_; (conv => whnf); try (show TL _ [_, _, _, _] _ _)) | refine br_t (by first | rfl | assumption) ?_ | refine br_f (by assumption) ?_ | refine ⟨by decide, ?_⟩ | refine ⟨by assumption, ?_⟩ | fail)
  by_cases h1 : (xs (nI i + 1).toNatClampNeg) < 0
  · refine X4_letter H U.1 (fun _ S1 s1 => ?_) (fun h => absurd h1 h) (fun h => absurd h1 h)
    repeat' (first | (with_reducible refine ⟨v1, ?_⟩) | (with_reducible refine ⟨v2, ?_⟩) | (with_reducible refine ⟨v3, ?_⟩) | (with_reducible refine ⟨v4, ?_⟩) | (refine HL [1435] _ _ _ _ ?_; (conv => whnf); try (show TL _ [_, _, _, _] _ _)) | refine br_t (by first | rfl | assumption) ?_ | refine br_f (by assumption) ?_ | refine ⟨by decide, ?_⟩ | refine ⟨by assumption, ?_⟩ | fail)
    refine X5_letter H (l := l) ⟨(s1.hi _ _ (by omega)).trans tm.1, tm.2⟩ (fun _ S2 s2 => ?_) (fun h => absurd h1 h) (fun h => absurd h1 h)
    repeat' (first | (with_reducible refine ⟨v1, ?_⟩) | (with_reducible refine ⟨v2, ?_⟩) | (with_reducible refine ⟨v3, ?_⟩) | (with_reducible refine ⟨v4, ?_⟩) | (refine HL [1435] _ _ _ _ ?_; (conv => whnf); try (show TL _ [_, _, _, _] _ _)) | refine br_t (by first | rfl | assumption) ?_ | refine br_f (by assumption) ?_ | refine ⟨by decide, ?_⟩ | refine ⟨by assumption, ?_⟩ | fail)
    all_goals exact Halt.mk (nx S2 (D.ansX s1 s2))
  by_cases h2 : 255 < (xs (nI i + 1).toNatClampNeg) ∨ l = 96
  · refine X4_letter H U.1 (fun h => absurd h h1) (fun _ _ S1 s1 => ?_) (fun _ h3 h4 => absurd h2 (fun z => z.elim h3 (fun z => by omega)))
    repeat' (first | (with_reducible refine ⟨v1, ?_⟩) | (with_reducible refine ⟨v2, ?_⟩) | (with_reducible refine ⟨v3, ?_⟩) | (with_reducible refine ⟨v4, ?_⟩) | (refine HL [1435] _ _ _ _ ?_; (conv => whnf); try (show TL _ [_, _, _, _] _ _)) | refine br_t (by first | rfl | assumption) ?_ | refine br_f (by assumption) ?_ | refine ⟨by decide, ?_⟩ | refine ⟨by assumption, ?_⟩ | fail)
    refine X5_letter H (l := l) ⟨(s1.hi _ _ (by omega)).trans tm.1, tm.2⟩ (fun h => absurd h h1) (fun _ _ S2 s2 => ?_) (fun _ h3 h4 => absurd h2 (fun z => z.elim h3 (fun z => by omega)))
    repeat' (first | (with_reducible refine ⟨v1, ?_⟩) | (with_reducible refine ⟨v2, ?_⟩) | (with_reducible refine ⟨v3, ?_⟩) | (with_reducible refine ⟨v4, ?_⟩) | (refine HL [1435] _ _ _ _ ?_; (conv => whnf); try (show TL _ [_, _, _, _] _ _)) | refine br_t (by first | rfl | assumption) ?_ | refine br_f (by assumption) ?_ | refine ⟨by decide, ?_⟩ | refine ⟨by assumption, ?_⟩ | fail)
    all_goals exact Halt.mk (nx S2 (D.ansX s1 s2))
  refine X4_letter H U.1 (fun h => absurd h h1) (fun _ h => absurd h h2) (fun _ _ hl => ?_)
  repeat' (first | (with_reducible refine ⟨v1, ?_⟩) | (with_reducible refine ⟨v2, ?_⟩) | (with_reducible refine ⟨v3, ?_⟩) | (with_reducible refine ⟨v4, ?_⟩) | (refine HL [1435] _ _ _ _ ?_; (conv => whnf); try (show TL _ [_, _, _, _] _ _)) | refine br_t (by first | rfl | assumption) ?_ | refine br_f (by assumption) ?_ | refine ⟨by decide, ?_⟩ | refine ⟨by assumption, ?_⟩ | fail)
  refine X5_letter H (l := l) ⟨by rw [up_k (by omega), up_k (by omega)]; exact tm.1, tm.2⟩ (fun h => absurd h h1) (fun _ h => absurd h h2) (fun _ _ _ => ?_)
  repeat' (first | (with_reducible refine ⟨v1, ?_⟩) | (with_reducible refine ⟨v2, ?_⟩) | (with_reducible refine ⟨v3, ?_⟩) | (with_reducible refine ⟨v4, ?_⟩) | (refine HL [1435] _ _ _ _ ?_; (conv => whnf); try (show TL _ [_, _, _, _] _ _)) | refine br_t (by first | rfl | assumption) ?_ | refine br_f (by assumption) ?_ | refine ⟨by decide, ?_⟩ | refine ⟨by assumption, ?_⟩ | fail)
  refine Halt.mk (nx _ (D.misc (row' := row) (q' := q) (lt' := upd lt l (xs (nI i + 1).toNatClampNeg)) (l' := l + 1) (fun a j ha => ?_) (D.r.cong ?_ (fun j => ?_)) (D.2.2.2.2.1.of ?_ (fun j => ?_)) ⟨⟨by omega, ?_⟩, fun j hj => ?_⟩ ⟨up_at, by omega⟩ (fun j hj => ?_)))
  · unfold exM at ha
    unfold up
    rw [if_neg (by omega), if_neg (by omega), if_neg (by omega), if_neg (by omega)]
  · rw [up_k (by omega), up_k (by omega), up_k (by omega), up_k (by omega)]
  · rw [up_k (by omega), up_k (by omega), up_k (by omega), up_k (by omega)]
  · rw [up_j (by omega), up_k (by omega), up_k (by omega), up_k (by omega)]
  · rw [up_k (by omega), up_k (by omega), up_k (by omega), up_k (by omega)]
  · rw [up_k (by omega), up_k (by omega), up_at]
  · rw [up_k (by omega), up_k (by omega), up_k (by omega)]
    unfold upd
    by_cases z : j = l
    · rw [z, up_at, if_pos rfl]
    · rw [up_j z, if_neg z]
      exact U.2 j (by omega)
  · rw [up_k (by omega)]
    unfold upd
    by_cases z : j = l
    · rw [z, up_at, if_pos rfl]
    · rw [up_j z, if_neg z, up_k (by omega), up_k (by omega)]
      exact tp j (by omega)
set_option maxRecDepth 100000 in
theorem LC_corridor (H : Rules C T) (HL : RulesL C (some (L, xs)) TL) {i : Nat} (hi : i + 5 ≤ L) (hL : L ≤ 2560) {S : Mem} (R : Rel S) (nx : ∀ S', Rel S' → TL 1435 [some (.ref 99), some (.ref 0), some (.ref 25), some (.int (nI i))] [] S') : TL 239 [some (.ref 99), some (.ref 0), some (.ref 25), some (.int (nI i))] [] S := by
  obtain ⟨K, n, row, q, lt, l, D⟩ := R
  have v1 : vp_in (nI i + 1) L := by rw [nI_1]; exact vp_in_nI (by omega) (by omega)
  have v2 : vp_in (nI i + 2) L := by rw [show nI i + 2 = nI (i + 2) from nI_add i 2]; exact vp_in_nI (by omega) (by omega)
  have v3 : vp_in (nI i + 3) L := by rw [show nI i + 3 = nI (i + 3) from nI_add i 3]; exact vp_in_nI (by omega) (by omega)
  have v4 : vp_in (nI i + 4) L := by rw [show nI i + 4 = nI (i + 4) from nI_add i 4]; exact vp_in_nI (by omega) (by omega)
  repeat' (first | (with_reducible refine ⟨v1, ?_⟩) | (with_reducible refine ⟨v2, ?_⟩) | (with_reducible refine ⟨v3, ?_⟩) | (with_reducible refine ⟨v4, ?_⟩) | (refine HL [1435] _ _ _ _ ?_; (conv => whnf); try (show TL _ [_, _, _, _] _ _)) | refine br_t (by first | rfl | assumption) ?_ | refine br_f (by assumption) ?_ | refine ⟨by decide, ?_⟩ | refine ⟨by assumption, ?_⟩ | fail)
  refine X4_corridor H D.c D.2.2.2.2.2.1 (fun S1 r1 e19 o1 => ?_)
  have e1 : ∀ a j, ¬ scrX a → ¬ exCor a j → S1 a j = S a j := o1
  have m1 : XM S1 K n := D.2.1.cong (fun a j h => e1 a j (by unfold scrX; omega) (by unfold exCor; omega))
  repeat' (first | (with_reducible refine ⟨v1, ?_⟩) | (with_reducible refine ⟨v2, ?_⟩) | (with_reducible refine ⟨v3, ?_⟩) | (with_reducible refine ⟨v4, ?_⟩) | (refine HL [1435] _ _ _ _ ?_; (conv => whnf); try (show TL _ [_, _, _, _] _ _)) | refine br_t (by first | rfl | assumption) ?_ | refine br_f (by assumption) ?_ | refine ⟨by decide, ?_⟩ | refine ⟨by assumption, ?_⟩ | fail)
  refine X5_corridor H m1 D.b D.2.2.2.2.2.1.1.1 ((e1 25 13 (by unfold scrX; omega) (by unfold exCor; omega)).trans D.2.2.2.2.2.2.1.1) (fun j hj => (e1 34 j (by unfold scrX; omega) (by unfold exCor; omega)).trans (D.2.2.2.2.2.2.2.1 j hj)) (fun S2 r2 g b e13 o2 => ?_)
  repeat' (first | (with_reducible refine ⟨v1, ?_⟩) | (with_reducible refine ⟨v2, ?_⟩) | (with_reducible refine ⟨v3, ?_⟩) | (with_reducible refine ⟨v4, ?_⟩) | (refine HL [1435] _ _ _ _ ?_; (conv => whnf); try (show TL _ [_, _, _, _] _ _)) | refine br_t (by first | rfl | assumption) ?_ | refine br_f (by assumption) ?_ | refine ⟨by decide, ?_⟩ | refine ⟨by assumption, ?_⟩ | fail)
  have z := corr_z (lt := lt) (l := l) (n := n) D.z
  have lo : ∀ a j, a < 25 → S2 a j = S1 a j := fun a j h => o2 a j (by unfold scrM; omega) (by unfold inM; omega) (by omega)
  have e2 : ∀ a j, ¬ scrX a → ¬ exCor a j → ¬ scrM a j → ¬ inM a j → ¬ (a = 25 ∧ j = 13) → S2 a j = S a j := fun a j h1 h2 h3 h4 h5 => by rw [o2 a j h3 h4 h5, e1 a j h1 h2]
  obtain ⟨c, _, _, r, rm, u, t, tp, rf, im⟩ := D
  refine Halt.mk (nx S2 ⟨_, _, row, q, lt, 0, ⟨r1.cong (fun a j g1 g2 => lo a j (by omega)), g.1, g.2.1, z⟩, ⟨r2, g, z⟩, b, r.cong (e2 _ _ (by unfold scrX; omega) (by unfold exCor; omega) (by unfold scrM; omega) (by unfold inM; omega) (by omega)) (fun j => e2 _ _ (by unfold scrX; omega) (by unfold exCor; omega) (by unfold scrM; omega) (by unfold inM; omega) (by omega)), rm.of (e2 _ _ (by unfold scrX; omega) (by unfold exCor; omega) (by unfold scrM; omega) (by unfold inM; omega) (by omega)) (fun j => e2 _ _ (by unfold scrX; omega) (by unfold exCor; omega) (by unfold scrM; omega) (by unfold inM; omega) (by omega)), ⟨⟨by omega, (lo 19 1 (by omega)).trans e19⟩, fun j hj => absurd hj (by omega)⟩, ⟨e13, by omega⟩, fun j hj => absurd hj (by omega), fun j h1 h6 => ?_, im.cong (e2 _ _ (by unfold scrX; omega) (by unfold exCor; omega) (by unfold scrM; omega) (by unfold inM; omega) (by omega)) (e2 _ _ (by unfold scrX; omega) (by unfold exCor; omega) (by unfold scrM; omega) (by unfold inM; omega) (by omega)) (fun a j g1 g2 => e2 _ _ (by unfold scrX; omega) (by unfold exCor; omega) (by unfold scrM; omega) (by unfold inM; omega) (by omega)) (fun j hj => e2 _ _ (by unfold scrX; omega) (by unfold exCor; omega) (by unfold scrM; omega) (by unfold inM; omega) (by omega))⟩)
  rw [e2 26 j (by unfold scrX; omega) (by unfold exCor; omega) (by unfold scrM; omega) (by unfold inM; omega) (by omega), e2 22 j (by unfold scrX; omega) (by unfold exCor; omega) (by unfold scrM; omega) (by unfold inM; omega) (by omega), rf j h1 h6]
set_option maxRecDepth 100000 in
theorem LC_room (H : Rules C T) (HL : RulesL C (some (L, xs)) TL) {i : Nat} (hi : i + 5 ≤ L) (hL : L ≤ 2560) {S : Mem} (R : Rel S) (nx : ∀ S', Rel S' → TL 1435 [some (.ref 99), some (.ref 0), some (.ref 25), some (.int (nI i))] [] S') : TL 252 [some (.ref 99), some (.ref 0), some (.ref 25), some (.int (nI i))] [] S := by
  obtain ⟨K, n, row, q, lt, l, D⟩ := R
  have v1 : vp_in (nI i + 1) L := by rw [nI_1]; exact vp_in_nI (by omega) (by omega)
  have v2 : vp_in (nI i + 2) L := by rw [show nI i + 2 = nI (i + 2) from nI_add i 2]; exact vp_in_nI (by omega) (by omega)
  have v3 : vp_in (nI i + 3) L := by rw [show nI i + 3 = nI (i + 3) from nI_add i 3]; exact vp_in_nI (by omega) (by omega)
  have v4 : vp_in (nI i + 4) L := by rw [show nI i + 4 = nI (i + 4) from nI_add i 4]; exact vp_in_nI (by omega) (by omega)
  repeat' (first | (with_reducible refine ⟨v1, ?_⟩) | (with_reducible refine ⟨v2, ?_⟩) | (with_reducible refine ⟨v3, ?_⟩) | (with_reducible refine ⟨v4, ?_⟩) | (refine HL [1435] _ _ _ _ ?_; (conv => whnf); try (show TL _ [_, _, _, _] _ _)) | refine br_t (by first | rfl | assumption) ?_ | refine br_f (by assumption) ?_ | refine ⟨by decide, ?_⟩ | refine ⟨by assumption, ?_⟩ | fail)
  refine X4_room H D.c (fun S1 s1 => ?_)
  repeat' (first | (with_reducible refine ⟨v1, ?_⟩) | (with_reducible refine ⟨v2, ?_⟩) | (with_reducible refine ⟨v3, ?_⟩) | (with_reducible refine ⟨v4, ?_⟩) | (refine HL [1435] _ _ _ _ ?_; (conv => whnf); try (show TL _ [_, _, _, _] _ _)) | refine br_t (by first | rfl | assumption) ?_ | refine br_f (by assumption) ?_ | refine ⟨by decide, ?_⟩ | refine ⟨by assumption, ?_⟩ | fail)
  refine X5_room H (D.mX s1) (fun S2 s2 => ?_)
  repeat' (first | (with_reducible refine ⟨v1, ?_⟩) | (with_reducible refine ⟨v2, ?_⟩) | (with_reducible refine ⟨v3, ?_⟩) | (with_reducible refine ⟨v4, ?_⟩) | (refine HL [1435] _ _ _ _ ?_; (conv => whnf); try (show TL _ [_, _, _, _] _ _)) | refine br_t (by first | rfl | assumption) ?_ | refine br_f (by assumption) ?_ | refine ⟨by decide, ?_⟩ | refine ⟨by assumption, ?_⟩ | fail)
  all_goals exact Halt.mk (nx S2 (D.ansX s1 s2))
set_option maxRecDepth 100000 in
theorem LC_maid (H : Rules C T) (HL : RulesL C (some (L, xs)) TL) {i : Nat} (hi : i + 5 ≤ L) (hL : L ≤ 2560) {S : Mem} (R : Rel S) (nx : ∀ S', Rel S' → TL 1435 [some (.ref 99), some (.ref 0), some (.ref 25), some (.int (nI i))] [] S') : TL 285 [some (.ref 99), some (.ref 0), some (.ref 25), some (.int (nI i))] [] S := by
  obtain ⟨K, n, row, q, lt, l, D⟩ := R
  have v1 : vp_in (nI i + 1) L := by rw [nI_1]; exact vp_in_nI (by omega) (by omega)
  have v2 : vp_in (nI i + 2) L := by rw [show nI i + 2 = nI (i + 2) from nI_add i 2]; exact vp_in_nI (by omega) (by omega)
  have v3 : vp_in (nI i + 3) L := by rw [show nI i + 3 = nI (i + 3) from nI_add i 3]; exact vp_in_nI (by omega) (by omega)
  have v4 : vp_in (nI i + 4) L := by rw [show nI i + 4 = nI (i + 4) from nI_add i 4]; exact vp_in_nI (by omega) (by omega)
  repeat' (first | (with_reducible refine ⟨v1, ?_⟩) | (with_reducible refine ⟨v2, ?_⟩) | (with_reducible refine ⟨v3, ?_⟩) | (with_reducible refine ⟨v4, ?_⟩) | (refine HL [1435] _ _ _ _ ?_; (conv => whnf); try (show TL _ [_, _, _, _] _ _)) | refine br_t (by first | rfl | assumption) ?_ | refine br_f (by assumption) ?_ | refine ⟨by decide, ?_⟩ | refine ⟨by assumption, ?_⟩ | fail)
  refine X4_maid H D.c (fun S1 s1 => ?_)
  repeat' (first | (with_reducible refine ⟨v1, ?_⟩) | (with_reducible refine ⟨v2, ?_⟩) | (with_reducible refine ⟨v3, ?_⟩) | (with_reducible refine ⟨v4, ?_⟩) | (refine HL [1435] _ _ _ _ ?_; (conv => whnf); try (show TL _ [_, _, _, _] _ _)) | refine br_t (by first | rfl | assumption) ?_ | refine br_f (by assumption) ?_ | refine ⟨by decide, ?_⟩ | refine ⟨by assumption, ?_⟩ | fail)
  refine X5_maid H (D.mX s1) (fun S2 s2 => ?_)
  repeat' (first | (with_reducible refine ⟨v1, ?_⟩) | (with_reducible refine ⟨v2, ?_⟩) | (with_reducible refine ⟨v3, ?_⟩) | (with_reducible refine ⟨v4, ?_⟩) | (refine HL [1435] _ _ _ _ ?_; (conv => whnf); try (show TL _ [_, _, _, _] _ _)) | refine br_t (by first | rfl | assumption) ?_ | refine br_f (by assumption) ?_ | refine ⟨by decide, ?_⟩ | refine ⟨by assumption, ?_⟩ | fail)
  all_goals exact Halt.mk (nx S2 (D.ansX s1 s2))
set_option maxRecDepth 100000 in
theorem LC_card (H : Rules C T) (HL : RulesL C (some (L, xs)) TL) {i : Nat} (hi : i + 5 ≤ L) (hL : L ≤ 2560) {S : Mem} (R : Rel S) (nx : ∀ S', Rel S' → TL 1435 [some (.ref 99), some (.ref 0), some (.ref 25), some (.int (nI i))] [] S') : TL 318 [some (.ref 99), some (.ref 0), some (.ref 25), some (.int (nI i))] [] S := by
  obtain ⟨K, n, row, q, lt, l, D⟩ := R
  have v1 : vp_in (nI i + 1) L := by rw [nI_1]; exact vp_in_nI (by omega) (by omega)
  have v2 : vp_in (nI i + 2) L := by rw [show nI i + 2 = nI (i + 2) from nI_add i 2]; exact vp_in_nI (by omega) (by omega)
  have v3 : vp_in (nI i + 3) L := by rw [show nI i + 3 = nI (i + 3) from nI_add i 3]; exact vp_in_nI (by omega) (by omega)
  have v4 : vp_in (nI i + 4) L := by rw [show nI i + 4 = nI (i + 4) from nI_add i 4]; exact vp_in_nI (by omega) (by omega)
  repeat' (first | (with_reducible refine ⟨v1, ?_⟩) | (with_reducible refine ⟨v2, ?_⟩) | (with_reducible refine ⟨v3, ?_⟩) | (with_reducible refine ⟨v4, ?_⟩) | (refine HL [1435] _ _ _ _ ?_; (conv => whnf); try (show TL _ [_, _, _, _] _ _)) | refine br_t (by first | rfl | assumption) ?_ | refine br_f (by assumption) ?_ | refine ⟨by decide, ?_⟩ | refine ⟨by assumption, ?_⟩ | fail)
  refine X4_card H D.c (fun S1 r1 s1 => ?_)
  repeat' (first | (with_reducible refine ⟨v1, ?_⟩) | (with_reducible refine ⟨v2, ?_⟩) | (with_reducible refine ⟨v3, ?_⟩) | (with_reducible refine ⟨v4, ?_⟩) | (refine HL [1435] _ _ _ _ ?_; (conv => whnf); try (show TL _ [_, _, _, _] _ _)) | refine br_t (by first | rfl | assumption) ?_ | refine br_f (by assumption) ?_ | refine ⟨by decide, ?_⟩ | refine ⟨by assumption, ?_⟩ | fail)
  refine X5_card H (D.mY s1) (fun S2 r2 s2 => ?_)
  have gb := flip_g (f := 2) (r := (xs (nI i + 1).toNatClampNeg)) (Or.inr rfl) (show GBZ K n from ⟨D.g, D.b, D.z⟩)
  repeat' (first | (with_reducible refine ⟨v1, ?_⟩) | (with_reducible refine ⟨v2, ?_⟩) | (with_reducible refine ⟨v3, ?_⟩) | (with_reducible refine ⟨v4, ?_⟩) | (refine HL [1435] _ _ _ _ ?_; (conv => whnf); try (show TL _ [_, _, _, _] _ _)) | refine br_t (by first | rfl | assumption) ?_ | refine br_f (by assumption) ?_ | refine ⟨by decide, ?_⟩ | refine ⟨by assumption, ?_⟩ | fail)
  all_goals exact Halt.mk (nx S2 (D.ansY r1 s1 r2 s2 gb.1 gb.2.1 gb.2.2))
set_option maxRecDepth 100000 in
theorem LC_undo (H : Rules C T) (HL : RulesL C (some (L, xs)) TL) {i : Nat} (hi : i + 5 ≤ L) (hL : L ≤ 2560) {S : Mem} (R : Rel S) (nx : ∀ S', Rel S' → TL 1435 [some (.ref 99), some (.ref 0), some (.ref 25), some (.int (nI i))] [] S') : TL 341 [some (.ref 99), some (.ref 0), some (.ref 25), some (.int (nI i))] [] S := by
  obtain ⟨K, n, row, q, lt, l, D⟩ := R
  have v1 : vp_in (nI i + 1) L := by rw [nI_1]; exact vp_in_nI (by omega) (by omega)
  have v2 : vp_in (nI i + 2) L := by rw [show nI i + 2 = nI (i + 2) from nI_add i 2]; exact vp_in_nI (by omega) (by omega)
  have v3 : vp_in (nI i + 3) L := by rw [show nI i + 3 = nI (i + 3) from nI_add i 3]; exact vp_in_nI (by omega) (by omega)
  have v4 : vp_in (nI i + 4) L := by rw [show nI i + 4 = nI (i + 4) from nI_add i 4]; exact vp_in_nI (by omega) (by omega)
  repeat' (first | (with_reducible refine ⟨v1, ?_⟩) | (with_reducible refine ⟨v2, ?_⟩) | (with_reducible refine ⟨v3, ?_⟩) | (with_reducible refine ⟨v4, ?_⟩) | (refine HL [1435] _ _ _ _ ?_; (conv => whnf); try (show TL _ [_, _, _, _] _ _)) | refine br_t (by first | rfl | assumption) ?_ | refine br_f (by assumption) ?_ | refine ⟨by decide, ?_⟩ | refine ⟨by assumption, ?_⟩ | fail)
  refine X4_undo H D.c (fun S1 r1 s1 => ?_)
  repeat' (first | (with_reducible refine ⟨v1, ?_⟩) | (with_reducible refine ⟨v2, ?_⟩) | (with_reducible refine ⟨v3, ?_⟩) | (with_reducible refine ⟨v4, ?_⟩) | (refine HL [1435] _ _ _ _ ?_; (conv => whnf); try (show TL _ [_, _, _, _] _ _)) | refine br_t (by first | rfl | assumption) ?_ | refine br_f (by assumption) ?_ | refine ⟨by decide, ?_⟩ | refine ⟨by assumption, ?_⟩ | fail)
  refine X5_undo H (D.mY s1) (fun S2 r2 s2 => ?_)
  have gb := flip_g (f := 1) (r := (xs (nI i + 1).toNatClampNeg)) (Or.inl rfl) (show GBZ K n from ⟨D.g, D.b, D.z⟩)
  repeat' (first | (with_reducible refine ⟨v1, ?_⟩) | (with_reducible refine ⟨v2, ?_⟩) | (with_reducible refine ⟨v3, ?_⟩) | (with_reducible refine ⟨v4, ?_⟩) | (refine HL [1435] _ _ _ _ ?_; (conv => whnf); try (show TL _ [_, _, _, _] _ _)) | refine br_t (by first | rfl | assumption) ?_ | refine br_f (by assumption) ?_ | refine ⟨by decide, ?_⟩ | refine ⟨by assumption, ?_⟩ | fail)
  all_goals exact Halt.mk (nx S2 (D.ansY r1 s1 r2 s2 gb.1 gb.2.1 gb.2.2))
set_option maxRecDepth 100000 in
theorem LC_turn (H : Rules C T) (HL : RulesL C (some (L, xs)) TL) {i : Nat} (hi : i + 5 ≤ L) (hL : L ≤ 2560) {S : Mem} (R : Rel S) (nx : ∀ S', Rel S' → TL 1435 [some (.ref 99), some (.ref 0), some (.ref 25), some (.int (nI i))] [] S') : TL 364 [some (.ref 99), some (.ref 0), some (.ref 25), some (.int (nI i))] [] S := by
  obtain ⟨K, n, row, q, lt, l, D⟩ := R
  have v1 : vp_in (nI i + 1) L := by rw [nI_1]; exact vp_in_nI (by omega) (by omega)
  have v2 : vp_in (nI i + 2) L := by rw [show nI i + 2 = nI (i + 2) from nI_add i 2]; exact vp_in_nI (by omega) (by omega)
  have v3 : vp_in (nI i + 3) L := by rw [show nI i + 3 = nI (i + 3) from nI_add i 3]; exact vp_in_nI (by omega) (by omega)
  have v4 : vp_in (nI i + 4) L := by rw [show nI i + 4 = nI (i + 4) from nI_add i 4]; exact vp_in_nI (by omega) (by omega)
  repeat' (first | (with_reducible refine ⟨v1, ?_⟩) | (with_reducible refine ⟨v2, ?_⟩) | (with_reducible refine ⟨v3, ?_⟩) | (with_reducible refine ⟨v4, ?_⟩) | (refine HL [1435] _ _ _ _ ?_; (conv => whnf); try (show TL _ [_, _, _, _] _ _)) | refine br_t (by first | rfl | assumption) ?_ | refine br_f (by assumption) ?_ | refine ⟨by decide, ?_⟩ | refine ⟨by assumption, ?_⟩ | fail)
  refine X4_turn H D.c (fun S1 r1 s1 => ?_)
  repeat' (first | (with_reducible refine ⟨v1, ?_⟩) | (with_reducible refine ⟨v2, ?_⟩) | (with_reducible refine ⟨v3, ?_⟩) | (with_reducible refine ⟨v4, ?_⟩) | (refine HL [1435] _ _ _ _ ?_; (conv => whnf); try (show TL _ [_, _, _, _] _ _)) | refine br_t (by first | rfl | assumption) ?_ | refine br_f (by assumption) ?_ | refine ⟨by decide, ?_⟩ | refine ⟨by assumption, ?_⟩ | fail)
  refine X5_turn H (D.mY s1) (fun S2 r2 s2 => ?_)
  have gb := turn_g (r := (xs (nI i + 1).toNatClampNeg)) (kd := (xs (nI i + 2).toNatClampNeg)) (f := (xs (nI i + 3).toNatClampNeg)) (show GBZ K n from ⟨D.g, D.b, D.z⟩)
  repeat' (first | (with_reducible refine ⟨v1, ?_⟩) | (with_reducible refine ⟨v2, ?_⟩) | (with_reducible refine ⟨v3, ?_⟩) | (with_reducible refine ⟨v4, ?_⟩) | (refine HL [1435] _ _ _ _ ?_; (conv => whnf); try (show TL _ [_, _, _, _] _ _)) | refine br_t (by first | rfl | assumption) ?_ | refine br_f (by assumption) ?_ | refine ⟨by decide, ?_⟩ | refine ⟨by assumption, ?_⟩ | fail)
  all_goals exact Halt.mk (nx S2 (D.ansY r1 s1 r2 s2 gb.1 gb.2.1 gb.2.2))
set_option maxRecDepth 100000 in
theorem LC_places (H : Rules C T) (HL : RulesL C (some (L, xs)) TL) {i : Nat} (hi : i + 5 ≤ L) (hL : L ≤ 2560) {S : Mem} (R : Rel S) (nx : ∀ S', Rel S' → TL 1435 [some (.ref 99), some (.ref 0), some (.ref 25), some (.int (nI i))] [] S') : TL 407 [some (.ref 99), some (.ref 0), some (.ref 25), some (.int (nI i))] [] S := by
  obtain ⟨K, n, row, q, lt, l, D⟩ := R
  have v1 : vp_in (nI i + 1) L := by rw [nI_1]; exact vp_in_nI (by omega) (by omega)
  have v2 : vp_in (nI i + 2) L := by rw [show nI i + 2 = nI (i + 2) from nI_add i 2]; exact vp_in_nI (by omega) (by omega)
  have v3 : vp_in (nI i + 3) L := by rw [show nI i + 3 = nI (i + 3) from nI_add i 3]; exact vp_in_nI (by omega) (by omega)
  have v4 : vp_in (nI i + 4) L := by rw [show nI i + 4 = nI (i + 4) from nI_add i 4]; exact vp_in_nI (by omega) (by omega)
  repeat' (first | (with_reducible refine ⟨v1, ?_⟩) | (with_reducible refine ⟨v2, ?_⟩) | (with_reducible refine ⟨v3, ?_⟩) | (with_reducible refine ⟨v4, ?_⟩) | (refine HL [1435] _ _ _ _ ?_; (conv => whnf); try (show TL _ [_, _, _, _] _ _)) | refine br_t (by first | rfl | assumption) ?_ | refine br_f (by assumption) ?_ | refine ⟨by decide, ?_⟩ | refine ⟨by assumption, ?_⟩ | fail)
  refine X4_places H D.c (fun S1 r1 s1 => ?_)
  repeat' (first | (with_reducible refine ⟨v1, ?_⟩) | (with_reducible refine ⟨v2, ?_⟩) | (with_reducible refine ⟨v3, ?_⟩) | (with_reducible refine ⟨v4, ?_⟩) | (refine HL [1435] _ _ _ _ ?_; (conv => whnf); try (show TL _ [_, _, _, _] _ _)) | refine br_t (by first | rfl | assumption) ?_ | refine br_f (by assumption) ?_ | refine ⟨by decide, ?_⟩ | refine ⟨by assumption, ?_⟩ | fail)
  refine X5_places H (D.mY s1) (fun S2 r2 s2 => ?_)
  have gb := places_g (m := (xs (nI i + 1).toNatClampNeg)) (p := (xs (nI i + 2).toNatClampNeg)) (l := (xs (nI i + 3).toNatClampNeg)) (show GBZ K n from ⟨D.g, D.b, D.z⟩)
  repeat' (first | (with_reducible refine ⟨v1, ?_⟩) | (with_reducible refine ⟨v2, ?_⟩) | (with_reducible refine ⟨v3, ?_⟩) | (with_reducible refine ⟨v4, ?_⟩) | (refine HL [1435] _ _ _ _ ?_; (conv => whnf); try (show TL _ [_, _, _, _] _ _)) | refine br_t (by first | rfl | assumption) ?_ | refine br_f (by assumption) ?_ | refine ⟨by decide, ?_⟩ | refine ⟨by assumption, ?_⟩ | fail)
  all_goals exact Halt.mk (nx S2 (D.ansY r1 s1 r2 s2 gb.1 gb.2.1 gb.2.2))
set_option maxRecDepth 100000 in
theorem LC_stays (H : Rules C T) (HL : RulesL C (some (L, xs)) TL) {i : Nat} (hi : i + 5 ≤ L) (hL : L ≤ 2560) {S : Mem} (R : Rel S) (nx : ∀ S', Rel S' → TL 1435 [some (.ref 99), some (.ref 0), some (.ref 25), some (.int (nI i))] [] S') : TL 450 [some (.ref 99), some (.ref 0), some (.ref 25), some (.int (nI i))] [] S := by
  obtain ⟨K, n, row, q, lt, l, D⟩ := R
  have v1 : vp_in (nI i + 1) L := by rw [nI_1]; exact vp_in_nI (by omega) (by omega)
  have v2 : vp_in (nI i + 2) L := by rw [show nI i + 2 = nI (i + 2) from nI_add i 2]; exact vp_in_nI (by omega) (by omega)
  have v3 : vp_in (nI i + 3) L := by rw [show nI i + 3 = nI (i + 3) from nI_add i 3]; exact vp_in_nI (by omega) (by omega)
  have v4 : vp_in (nI i + 4) L := by rw [show nI i + 4 = nI (i + 4) from nI_add i 4]; exact vp_in_nI (by omega) (by omega)
  repeat' (first | (with_reducible refine ⟨v1, ?_⟩) | (with_reducible refine ⟨v2, ?_⟩) | (with_reducible refine ⟨v3, ?_⟩) | (with_reducible refine ⟨v4, ?_⟩) | (refine HL [1435] _ _ _ _ ?_; (conv => whnf); try (show TL _ [_, _, _, _] _ _)) | refine br_t (by first | rfl | assumption) ?_ | refine br_f (by assumption) ?_ | refine ⟨by decide, ?_⟩ | refine ⟨by assumption, ?_⟩ | fail)
  refine X4_stays H D.c (fun S1 r1 s1 => ?_)
  repeat' (first | (with_reducible refine ⟨v1, ?_⟩) | (with_reducible refine ⟨v2, ?_⟩) | (with_reducible refine ⟨v3, ?_⟩) | (with_reducible refine ⟨v4, ?_⟩) | (refine HL [1435] _ _ _ _ ?_; (conv => whnf); try (show TL _ [_, _, _, _] _ _)) | refine br_t (by first | rfl | assumption) ?_ | refine br_f (by assumption) ?_ | refine ⟨by decide, ?_⟩ | refine ⟨by assumption, ?_⟩ | fail)
  refine X5_stays H (D.mY s1) (fun S2 r2 s2 => ?_)
  have gb := stays_g (m := (xs (nI i + 1).toNatClampNeg)) (t := (xs (nI i + 2).toNatClampNeg)) (show GBZ K n from ⟨D.g, D.b, D.z⟩)
  repeat' (first | (with_reducible refine ⟨v1, ?_⟩) | (with_reducible refine ⟨v2, ?_⟩) | (with_reducible refine ⟨v3, ?_⟩) | (with_reducible refine ⟨v4, ?_⟩) | (refine HL [1435] _ _ _ _ ?_; (conv => whnf); try (show TL _ [_, _, _, _] _ _)) | refine br_t (by first | rfl | assumption) ?_ | refine br_f (by assumption) ?_ | refine ⟨by decide, ?_⟩ | refine ⟨by assumption, ?_⟩ | fail)
  all_goals exact Halt.mk (nx S2 (D.ansY r1 s1 r2 s2 gb.1 gb.2.1 gb.2.2))
set_option maxRecDepth 100000 in
theorem LC_visits (H : Rules C T) (HL : RulesL C (some (L, xs)) TL) {i : Nat} (hi : i + 5 ≤ L) (hL : L ≤ 2560) {S : Mem} (R : Rel S) (nx : ∀ S', Rel S' → TL 1435 [some (.ref 99), some (.ref 0), some (.ref 25), some (.int (nI i))] [] S') : TL 483 [some (.ref 99), some (.ref 0), some (.ref 25), some (.int (nI i))] [] S := by
  obtain ⟨K, n, row, q, lt, l, D⟩ := R
  have v1 : vp_in (nI i + 1) L := by rw [nI_1]; exact vp_in_nI (by omega) (by omega)
  have v2 : vp_in (nI i + 2) L := by rw [show nI i + 2 = nI (i + 2) from nI_add i 2]; exact vp_in_nI (by omega) (by omega)
  have v3 : vp_in (nI i + 3) L := by rw [show nI i + 3 = nI (i + 3) from nI_add i 3]; exact vp_in_nI (by omega) (by omega)
  have v4 : vp_in (nI i + 4) L := by rw [show nI i + 4 = nI (i + 4) from nI_add i 4]; exact vp_in_nI (by omega) (by omega)
  repeat' (first | (with_reducible refine ⟨v1, ?_⟩) | (with_reducible refine ⟨v2, ?_⟩) | (with_reducible refine ⟨v3, ?_⟩) | (with_reducible refine ⟨v4, ?_⟩) | (refine HL [1435] _ _ _ _ ?_; (conv => whnf); try (show TL _ [_, _, _, _] _ _)) | refine br_t (by first | rfl | assumption) ?_ | refine br_f (by assumption) ?_ | refine ⟨by decide, ?_⟩ | refine ⟨by assumption, ?_⟩ | fail)
  refine X4_visits H D.c (fun S1 r1 s1 => ?_)
  repeat' (first | (with_reducible refine ⟨v1, ?_⟩) | (with_reducible refine ⟨v2, ?_⟩) | (with_reducible refine ⟨v3, ?_⟩) | (with_reducible refine ⟨v4, ?_⟩) | (refine HL [1435] _ _ _ _ ?_; (conv => whnf); try (show TL _ [_, _, _, _] _ _)) | refine br_t (by first | rfl | assumption) ?_ | refine br_f (by assumption) ?_ | refine ⟨by decide, ?_⟩ | refine ⟨by assumption, ?_⟩ | fail)
  refine X5_visits H (D.mY s1) (fun S2 r2 s2 => ?_)
  have gb := visits_g (m := (xs (nI i + 1).toNatClampNeg)) (r := (xs (nI i + 2).toNatClampNeg)) (show GBZ K n from ⟨D.g, D.b, D.z⟩)
  repeat' (first | (with_reducible refine ⟨v1, ?_⟩) | (with_reducible refine ⟨v2, ?_⟩) | (with_reducible refine ⟨v3, ?_⟩) | (with_reducible refine ⟨v4, ?_⟩) | (refine HL [1435] _ _ _ _ ?_; (conv => whnf); try (show TL _ [_, _, _, _] _ _)) | refine br_t (by first | rfl | assumption) ?_ | refine br_f (by assumption) ?_ | refine ⟨by decide, ?_⟩ | refine ⟨by assumption, ?_⟩ | fail)
  all_goals exact Halt.mk (nx S2 (D.ansY r1 s1 r2 s2 gb.1 gb.2.1 gb.2.2))
set_option maxRecDepth 100000 in
theorem LC_both (H : Rules C T) (HL : RulesL C (some (L, xs)) TL) {i : Nat} (hi : i + 5 ≤ L) (hL : L ≤ 2560) {S : Mem} (R : Rel S) (nx : ∀ S', Rel S' → TL 1435 [some (.ref 99), some (.ref 0), some (.ref 25), some (.int (nI i))] [] S') : TL 516 [some (.ref 99), some (.ref 0), some (.ref 25), some (.int (nI i))] [] S := by
  obtain ⟨K, n, row, q, lt, l, D⟩ := R
  have v1 : vp_in (nI i + 1) L := by rw [nI_1]; exact vp_in_nI (by omega) (by omega)
  have v2 : vp_in (nI i + 2) L := by rw [show nI i + 2 = nI (i + 2) from nI_add i 2]; exact vp_in_nI (by omega) (by omega)
  have v3 : vp_in (nI i + 3) L := by rw [show nI i + 3 = nI (i + 3) from nI_add i 3]; exact vp_in_nI (by omega) (by omega)
  have v4 : vp_in (nI i + 4) L := by rw [show nI i + 4 = nI (i + 4) from nI_add i 4]; exact vp_in_nI (by omega) (by omega)
  repeat' (first | (with_reducible refine ⟨v1, ?_⟩) | (with_reducible refine ⟨v2, ?_⟩) | (with_reducible refine ⟨v3, ?_⟩) | (with_reducible refine ⟨v4, ?_⟩) | (refine HL [1435] _ _ _ _ ?_; (conv => whnf); try (show TL _ [_, _, _, _] _ _)) | refine br_t (by first | rfl | assumption) ?_ | refine br_f (by assumption) ?_ | refine ⟨by decide, ?_⟩ | refine ⟨by assumption, ?_⟩ | fail)
  refine X4_both H D.c (fun S1 r1 s1 => ?_)
  repeat' (first | (with_reducible refine ⟨v1, ?_⟩) | (with_reducible refine ⟨v2, ?_⟩) | (with_reducible refine ⟨v3, ?_⟩) | (with_reducible refine ⟨v4, ?_⟩) | (refine HL [1435] _ _ _ _ ?_; (conv => whnf); try (show TL _ [_, _, _, _] _ _)) | refine br_t (by first | rfl | assumption) ?_ | refine br_f (by assumption) ?_ | refine ⟨by decide, ?_⟩ | refine ⟨by assumption, ?_⟩ | fail)
  refine X5_both H (D.mY s1) (fun S2 r2 s2 => ?_)
  have gb := both_g (r := (xs (nI i + 1).toNatClampNeg)) (show GBZ K n from ⟨D.g, D.b, D.z⟩)
  repeat' (first | (with_reducible refine ⟨v1, ?_⟩) | (with_reducible refine ⟨v2, ?_⟩) | (with_reducible refine ⟨v3, ?_⟩) | (with_reducible refine ⟨v4, ?_⟩) | (refine HL [1435] _ _ _ _ ?_; (conv => whnf); try (show TL _ [_, _, _, _] _ _)) | refine br_t (by first | rfl | assumption) ?_ | refine br_f (by assumption) ?_ | refine ⟨by decide, ?_⟩ | refine ⟨by assumption, ?_⟩ | fail)
  all_goals exact Halt.mk (nx S2 (D.ansY r1 s1 r2 s2 gb.1 gb.2.1 gb.2.2))
set_option maxRecDepth 100000 in
theorem LC_down (H : Rules C T) (HL : RulesL C (some (L, xs)) TL) {i : Nat} (hi : i + 5 ≤ L) (hL : L ≤ 2560) {S : Mem} (R : Rel S) (nx : ∀ S', Rel S' → TL 1435 [some (.ref 99), some (.ref 0), some (.ref 25), some (.int (nI i))] [] S') : TL 539 [some (.ref 99), some (.ref 0), some (.ref 25), some (.int (nI i))] [] S := by
  obtain ⟨K, n, row, q, lt, l, D⟩ := R
  have v1 : vp_in (nI i + 1) L := by rw [nI_1]; exact vp_in_nI (by omega) (by omega)
  have v2 : vp_in (nI i + 2) L := by rw [show nI i + 2 = nI (i + 2) from nI_add i 2]; exact vp_in_nI (by omega) (by omega)
  have v3 : vp_in (nI i + 3) L := by rw [show nI i + 3 = nI (i + 3) from nI_add i 3]; exact vp_in_nI (by omega) (by omega)
  have v4 : vp_in (nI i + 4) L := by rw [show nI i + 4 = nI (i + 4) from nI_add i 4]; exact vp_in_nI (by omega) (by omega)
  repeat' (first | (with_reducible refine ⟨v1, ?_⟩) | (with_reducible refine ⟨v2, ?_⟩) | (with_reducible refine ⟨v3, ?_⟩) | (with_reducible refine ⟨v4, ?_⟩) | (refine HL [1435] _ _ _ _ ?_; (conv => whnf); try (show TL _ [_, _, _, _] _ _)) | refine br_t (by first | rfl | assumption) ?_ | refine br_f (by assumption) ?_ | refine ⟨by decide, ?_⟩ | refine ⟨by assumption, ?_⟩ | fail)
  refine X4_down H D.c (fun S1 r1 s1 => ?_)
  repeat' (first | (with_reducible refine ⟨v1, ?_⟩) | (with_reducible refine ⟨v2, ?_⟩) | (with_reducible refine ⟨v3, ?_⟩) | (with_reducible refine ⟨v4, ?_⟩) | (refine HL [1435] _ _ _ _ ?_; (conv => whnf); try (show TL _ [_, _, _, _] _ _)) | refine br_t (by first | rfl | assumption) ?_ | refine br_f (by assumption) ?_ | refine ⟨by decide, ?_⟩ | refine ⟨by assumption, ?_⟩ | fail)
  refine X5_down H (D.mY s1) (fun S2 r2 s2 => ?_)
  have gb := down_g (m := (xs (nI i + 1).toNatClampNeg)) (show GBZ K n from ⟨D.g, D.b, D.z⟩)
  repeat' (first | (with_reducible refine ⟨v1, ?_⟩) | (with_reducible refine ⟨v2, ?_⟩) | (with_reducible refine ⟨v3, ?_⟩) | (with_reducible refine ⟨v4, ?_⟩) | (refine HL [1435] _ _ _ _ ?_; (conv => whnf); try (show TL _ [_, _, _, _] _ _)) | refine br_t (by first | rfl | assumption) ?_ | refine br_f (by assumption) ?_ | refine ⟨by decide, ?_⟩ | refine ⟨by assumption, ?_⟩ | fail)
  all_goals exact Halt.mk (nx S2 (D.ansY r1 s1 r2 s2 gb.1 gb.2.1 gb.2.2))
set_option maxRecDepth 100000 in
theorem LC_out (H : Rules C T) (HL : RulesL C (some (L, xs)) TL) {i : Nat} (hi : i + 5 ≤ L) (hL : L ≤ 2560) {S : Mem} (R : Rel S) (nx : ∀ S', Rel S' → TL 1435 [some (.ref 99), some (.ref 0), some (.ref 25), some (.int (nI i))] [] S') : TL 562 [some (.ref 99), some (.ref 0), some (.ref 25), some (.int (nI i))] [] S := by
  obtain ⟨K, n, row, q, lt, l, D⟩ := R
  have v1 : vp_in (nI i + 1) L := by rw [nI_1]; exact vp_in_nI (by omega) (by omega)
  have v2 : vp_in (nI i + 2) L := by rw [show nI i + 2 = nI (i + 2) from nI_add i 2]; exact vp_in_nI (by omega) (by omega)
  have v3 : vp_in (nI i + 3) L := by rw [show nI i + 3 = nI (i + 3) from nI_add i 3]; exact vp_in_nI (by omega) (by omega)
  have v4 : vp_in (nI i + 4) L := by rw [show nI i + 4 = nI (i + 4) from nI_add i 4]; exact vp_in_nI (by omega) (by omega)
  repeat' (first | (with_reducible refine ⟨v1, ?_⟩) | (with_reducible refine ⟨v2, ?_⟩) | (with_reducible refine ⟨v3, ?_⟩) | (with_reducible refine ⟨v4, ?_⟩) | (refine HL [1435] _ _ _ _ ?_; (conv => whnf); try (show TL _ [_, _, _, _] _ _)) | refine br_t (by first | rfl | assumption) ?_ | refine br_f (by assumption) ?_ | refine ⟨by decide, ?_⟩ | refine ⟨by assumption, ?_⟩ | fail)
  refine X4_out H D.c (fun S1 s1 => ?_)
  repeat' (first | (with_reducible refine ⟨v1, ?_⟩) | (with_reducible refine ⟨v2, ?_⟩) | (with_reducible refine ⟨v3, ?_⟩) | (with_reducible refine ⟨v4, ?_⟩) | (refine HL [1435] _ _ _ _ ?_; (conv => whnf); try (show TL _ [_, _, _, _] _ _)) | refine br_t (by first | rfl | assumption) ?_ | refine br_f (by assumption) ?_ | refine ⟨by decide, ?_⟩ | refine ⟨by assumption, ?_⟩ | fail)
  refine X5_out H (D.mX s1) (fun S2 s2 => ?_)
  repeat' (first | (with_reducible refine ⟨v1, ?_⟩) | (with_reducible refine ⟨v2, ?_⟩) | (with_reducible refine ⟨v3, ?_⟩) | (with_reducible refine ⟨v4, ?_⟩) | (refine HL [1435] _ _ _ _ ?_; (conv => whnf); try (show TL _ [_, _, _, _] _ _)) | refine br_t (by first | rfl | assumption) ?_ | refine br_f (by assumption) ?_ | refine ⟨by decide, ?_⟩ | refine ⟨by assumption, ?_⟩ | fail)
  all_goals exact Halt.mk (nx S2 (D.ansX s1 s2))
set_option maxRecDepth 100000 in
theorem LC_nextOut (H : Rules C T) (HL : RulesL C (some (L, xs)) TL) {i : Nat} (hi : i + 5 ≤ L) (hL : L ≤ 2560) {S : Mem} (R : Rel S) (nx : ∀ S', Rel S' → TL 1435 [some (.ref 99), some (.ref 0), some (.ref 25), some (.int (nI i))] [] S') : TL 595 [some (.ref 99), some (.ref 0), some (.ref 25), some (.int (nI i))] [] S := by
  obtain ⟨K, n, row, q, lt, l, D⟩ := R
  have v1 : vp_in (nI i + 1) L := by rw [nI_1]; exact vp_in_nI (by omega) (by omega)
  have v2 : vp_in (nI i + 2) L := by rw [show nI i + 2 = nI (i + 2) from nI_add i 2]; exact vp_in_nI (by omega) (by omega)
  have v3 : vp_in (nI i + 3) L := by rw [show nI i + 3 = nI (i + 3) from nI_add i 3]; exact vp_in_nI (by omega) (by omega)
  have v4 : vp_in (nI i + 4) L := by rw [show nI i + 4 = nI (i + 4) from nI_add i 4]; exact vp_in_nI (by omega) (by omega)
  repeat' (first | (with_reducible refine ⟨v1, ?_⟩) | (with_reducible refine ⟨v2, ?_⟩) | (with_reducible refine ⟨v3, ?_⟩) | (with_reducible refine ⟨v4, ?_⟩) | (refine HL [1435] _ _ _ _ ?_; (conv => whnf); try (show TL _ [_, _, _, _] _ _)) | refine br_t (by first | rfl | assumption) ?_ | refine br_f (by assumption) ?_ | refine ⟨by decide, ?_⟩ | refine ⟨by assumption, ?_⟩ | fail)
  refine X4_nextOut H D.c (fun S1 s1 => ?_)
  repeat' (first | (with_reducible refine ⟨v1, ?_⟩) | (with_reducible refine ⟨v2, ?_⟩) | (with_reducible refine ⟨v3, ?_⟩) | (with_reducible refine ⟨v4, ?_⟩) | (refine HL [1435] _ _ _ _ ?_; (conv => whnf); try (show TL _ [_, _, _, _] _ _)) | refine br_t (by first | rfl | assumption) ?_ | refine br_f (by assumption) ?_ | refine ⟨by decide, ?_⟩ | refine ⟨by assumption, ?_⟩ | fail)
  refine X5_nextOut H (D.mX s1) (fun S2 s2 => ?_)
  repeat' (first | (with_reducible refine ⟨v1, ?_⟩) | (with_reducible refine ⟨v2, ?_⟩) | (with_reducible refine ⟨v3, ?_⟩) | (with_reducible refine ⟨v4, ?_⟩) | (refine HL [1435] _ _ _ _ ?_; (conv => whnf); try (show TL _ [_, _, _, _] _ _)) | refine br_t (by first | rfl | assumption) ?_ | refine br_f (by assumption) ?_ | refine ⟨by decide, ?_⟩ | refine ⟨by assumption, ?_⟩ | fail)
  all_goals exact Halt.mk (nx S2 (D.ansX s1 s2))
set_option maxRecDepth 100000 in
theorem LC_howLong (H : Rules C T) (HL : RulesL C (some (L, xs)) TL) {i : Nat} (hi : i + 5 ≤ L) (hL : L ≤ 2560) {S : Mem} (R : Rel S) (nx : ∀ S', Rel S' → TL 1435 [some (.ref 99), some (.ref 0), some (.ref 25), some (.int (nI i))] [] S') : TL 628 [some (.ref 99), some (.ref 0), some (.ref 25), some (.int (nI i))] [] S := by
  obtain ⟨K, n, row, q, lt, l, D⟩ := R
  have v1 : vp_in (nI i + 1) L := by rw [nI_1]; exact vp_in_nI (by omega) (by omega)
  have v2 : vp_in (nI i + 2) L := by rw [show nI i + 2 = nI (i + 2) from nI_add i 2]; exact vp_in_nI (by omega) (by omega)
  have v3 : vp_in (nI i + 3) L := by rw [show nI i + 3 = nI (i + 3) from nI_add i 3]; exact vp_in_nI (by omega) (by omega)
  have v4 : vp_in (nI i + 4) L := by rw [show nI i + 4 = nI (i + 4) from nI_add i 4]; exact vp_in_nI (by omega) (by omega)
  repeat' (first | (with_reducible refine ⟨v1, ?_⟩) | (with_reducible refine ⟨v2, ?_⟩) | (with_reducible refine ⟨v3, ?_⟩) | (with_reducible refine ⟨v4, ?_⟩) | (refine HL [1435] _ _ _ _ ?_; (conv => whnf); try (show TL _ [_, _, _, _] _ _)) | refine br_t (by first | rfl | assumption) ?_ | refine br_f (by assumption) ?_ | refine ⟨by decide, ?_⟩ | refine ⟨by assumption, ?_⟩ | fail)
  refine X4_howLong H D.c (fun S1 s1 => ?_)
  repeat' (first | (with_reducible refine ⟨v1, ?_⟩) | (with_reducible refine ⟨v2, ?_⟩) | (with_reducible refine ⟨v3, ?_⟩) | (with_reducible refine ⟨v4, ?_⟩) | (refine HL [1435] _ _ _ _ ?_; (conv => whnf); try (show TL _ [_, _, _, _] _ _)) | refine br_t (by first | rfl | assumption) ?_ | refine br_f (by assumption) ?_ | refine ⟨by decide, ?_⟩ | refine ⟨by assumption, ?_⟩ | fail)
  refine X5_howLong H (D.mX s1) (fun S2 s2 => ?_)
  repeat' (first | (with_reducible refine ⟨v1, ?_⟩) | (with_reducible refine ⟨v2, ?_⟩) | (with_reducible refine ⟨v3, ?_⟩) | (with_reducible refine ⟨v4, ?_⟩) | (refine HL [1435] _ _ _ _ ?_; (conv => whnf); try (show TL _ [_, _, _, _] _ _)) | refine br_t (by first | rfl | assumption) ?_ | refine br_f (by assumption) ?_ | refine ⟨by decide, ?_⟩ | refine ⟨by assumption, ?_⟩ | fail)
  all_goals exact Halt.mk (nx S2 (D.ansX s1 s2))
set_option maxRecDepth 100000 in
theorem LC_bothLong (H : Rules C T) (HL : RulesL C (some (L, xs)) TL) {i : Nat} (hi : i + 5 ≤ L) (hL : L ≤ 2560) {S : Mem} (R : Rel S) (nx : ∀ S', Rel S' → TL 1435 [some (.ref 99), some (.ref 0), some (.ref 25), some (.int (nI i))] [] S') : TL 671 [some (.ref 99), some (.ref 0), some (.ref 25), some (.int (nI i))] [] S := by
  obtain ⟨K, n, row, q, lt, l, D⟩ := R
  have v1 : vp_in (nI i + 1) L := by rw [nI_1]; exact vp_in_nI (by omega) (by omega)
  have v2 : vp_in (nI i + 2) L := by rw [show nI i + 2 = nI (i + 2) from nI_add i 2]; exact vp_in_nI (by omega) (by omega)
  have v3 : vp_in (nI i + 3) L := by rw [show nI i + 3 = nI (i + 3) from nI_add i 3]; exact vp_in_nI (by omega) (by omega)
  have v4 : vp_in (nI i + 4) L := by rw [show nI i + 4 = nI (i + 4) from nI_add i 4]; exact vp_in_nI (by omega) (by omega)
  repeat' (first | (with_reducible refine ⟨v1, ?_⟩) | (with_reducible refine ⟨v2, ?_⟩) | (with_reducible refine ⟨v3, ?_⟩) | (with_reducible refine ⟨v4, ?_⟩) | (refine HL [1435] _ _ _ _ ?_; (conv => whnf); try (show TL _ [_, _, _, _] _ _)) | refine br_t (by first | rfl | assumption) ?_ | refine br_f (by assumption) ?_ | refine ⟨by decide, ?_⟩ | refine ⟨by assumption, ?_⟩ | fail)
  refine X4_bothLong H D.c (fun S1 s1 => ?_)
  repeat' (first | (with_reducible refine ⟨v1, ?_⟩) | (with_reducible refine ⟨v2, ?_⟩) | (with_reducible refine ⟨v3, ?_⟩) | (with_reducible refine ⟨v4, ?_⟩) | (refine HL [1435] _ _ _ _ ?_; (conv => whnf); try (show TL _ [_, _, _, _] _ _)) | refine br_t (by first | rfl | assumption) ?_ | refine br_f (by assumption) ?_ | refine ⟨by decide, ?_⟩ | refine ⟨by assumption, ?_⟩ | fail)
  refine X5_bothLong H (D.mX s1) (fun S2 s2 => ?_)
  repeat' (first | (with_reducible refine ⟨v1, ?_⟩) | (with_reducible refine ⟨v2, ?_⟩) | (with_reducible refine ⟨v3, ?_⟩) | (with_reducible refine ⟨v4, ?_⟩) | (refine HL [1435] _ _ _ _ ?_; (conv => whnf); try (show TL _ [_, _, _, _] _ _)) | refine br_t (by first | rfl | assumption) ?_ | refine br_f (by assumption) ?_ | refine ⟨by decide, ?_⟩ | refine ⟨by assumption, ?_⟩ | fail)
  all_goals exact Halt.mk (nx S2 (D.ansX s1 s2))
set_option maxRecDepth 100000 in
theorem LC_round (H : Rules C T) (HL : RulesL C (some (L, xs)) TL) {i : Nat} (hi : i + 5 ≤ L) (hL : L ≤ 2560) {S : Mem} (R : Rel S) (nx : ∀ S', Rel S' → TL 1435 [some (.ref 99), some (.ref 0), some (.ref 25), some (.int (nI i))] [] S') : TL 704 [some (.ref 99), some (.ref 0), some (.ref 25), some (.int (nI i))] [] S := by
  obtain ⟨K, n, row, q, lt, l, D⟩ := R
  have v1 : vp_in (nI i + 1) L := by rw [nI_1]; exact vp_in_nI (by omega) (by omega)
  have v2 : vp_in (nI i + 2) L := by rw [show nI i + 2 = nI (i + 2) from nI_add i 2]; exact vp_in_nI (by omega) (by omega)
  have v3 : vp_in (nI i + 3) L := by rw [show nI i + 3 = nI (i + 3) from nI_add i 3]; exact vp_in_nI (by omega) (by omega)
  have v4 : vp_in (nI i + 4) L := by rw [show nI i + 4 = nI (i + 4) from nI_add i 4]; exact vp_in_nI (by omega) (by omega)
  repeat' (first | (with_reducible refine ⟨v1, ?_⟩) | (with_reducible refine ⟨v2, ?_⟩) | (with_reducible refine ⟨v3, ?_⟩) | (with_reducible refine ⟨v4, ?_⟩) | (refine HL [1435] _ _ _ _ ?_; (conv => whnf); try (show TL _ [_, _, _, _] _ _)) | refine br_t (by first | rfl | assumption) ?_ | refine br_f (by assumption) ?_ | refine ⟨by decide, ?_⟩ | refine ⟨by assumption, ?_⟩ | fail)
  refine X4_round H D.c D.r (fun S1 s1 => ?_)
  repeat' (first | (with_reducible refine ⟨v1, ?_⟩) | (with_reducible refine ⟨v2, ?_⟩) | (with_reducible refine ⟨v3, ?_⟩) | (with_reducible refine ⟨v4, ?_⟩) | (refine HL [1435] _ _ _ _ ?_; (conv => whnf); try (show TL _ [_, _, _, _] _ _)) | refine br_t (by first | rfl | assumption) ?_ | refine br_f (by assumption) ?_ | refine ⟨by decide, ?_⟩ | refine ⟨by assumption, ?_⟩ | fail)
  refine X5_round H (D.mX s1) (D.rX s1) (fun S2 s2 => ?_)
  repeat' (first | (with_reducible refine ⟨v1, ?_⟩) | (with_reducible refine ⟨v2, ?_⟩) | (with_reducible refine ⟨v3, ?_⟩) | (with_reducible refine ⟨v4, ?_⟩) | (refine HL [1435] _ _ _ _ ?_; (conv => whnf); try (show TL _ [_, _, _, _] _ _)) | refine br_t (by first | rfl | assumption) ?_ | refine br_f (by assumption) ?_ | refine ⟨by decide, ?_⟩ | refine ⟨by assumption, ?_⟩ | fail)
  all_goals exact Halt.mk (nx S2 (D.ansX s1 s2))
set_option maxRecDepth 100000 in
theorem LC_swap (H : Rules C T) (HL : RulesL C (some (L, xs)) TL) {i : Nat} (hi : i + 5 ≤ L) (hL : L ≤ 2560) {S : Mem} (R : Rel S) (nx : ∀ S', Rel S' → TL 1435 [some (.ref 99), some (.ref 0), some (.ref 25), some (.int (nI i))] [] S') : TL 737 [some (.ref 99), some (.ref 0), some (.ref 25), some (.int (nI i))] [] S := by
  obtain ⟨K, n, row, q, lt, l, D⟩ := R
  have v1 : vp_in (nI i + 1) L := by rw [nI_1]; exact vp_in_nI (by omega) (by omega)
  have v2 : vp_in (nI i + 2) L := by rw [show nI i + 2 = nI (i + 2) from nI_add i 2]; exact vp_in_nI (by omega) (by omega)
  have v3 : vp_in (nI i + 3) L := by rw [show nI i + 3 = nI (i + 3) from nI_add i 3]; exact vp_in_nI (by omega) (by omega)
  have v4 : vp_in (nI i + 4) L := by rw [show nI i + 4 = nI (i + 4) from nI_add i 4]; exact vp_in_nI (by omega) (by omega)
  repeat' (first | (with_reducible refine ⟨v1, ?_⟩) | (with_reducible refine ⟨v2, ?_⟩) | (with_reducible refine ⟨v3, ?_⟩) | (with_reducible refine ⟨v4, ?_⟩) | (refine HL [1435] _ _ _ _ ?_; (conv => whnf); try (show TL _ [_, _, _, _] _ _)) | refine br_t (by first | rfl | assumption) ?_ | refine br_f (by assumption) ?_ | refine ⟨by decide, ?_⟩ | refine ⟨by assumption, ?_⟩ | fail)
  refine X4_swap H D.c D.r (fun S1 s1 => ?_)
  repeat' (first | (with_reducible refine ⟨v1, ?_⟩) | (with_reducible refine ⟨v2, ?_⟩) | (with_reducible refine ⟨v3, ?_⟩) | (with_reducible refine ⟨v4, ?_⟩) | (refine HL [1435] _ _ _ _ ?_; (conv => whnf); try (show TL _ [_, _, _, _] _ _)) | refine br_t (by first | rfl | assumption) ?_ | refine br_f (by assumption) ?_ | refine ⟨by decide, ?_⟩ | refine ⟨by assumption, ?_⟩ | fail)
  refine X5_swap H (D.mX s1) (D.rX s1) (fun S2 s2 => ?_)
  repeat' (first | (with_reducible refine ⟨v1, ?_⟩) | (with_reducible refine ⟨v2, ?_⟩) | (with_reducible refine ⟨v3, ?_⟩) | (with_reducible refine ⟨v4, ?_⟩) | (refine HL [1435] _ _ _ _ ?_; (conv => whnf); try (show TL _ [_, _, _, _] _ _)) | refine br_t (by first | rfl | assumption) ?_ | refine br_f (by assumption) ?_ | refine ⟨by decide, ?_⟩ | refine ⟨by assumption, ?_⟩ | fail)
  all_goals exact Halt.mk (nx S2 (D.ansX s1 s2))
set_option maxRecDepth 100000 in
theorem LC_nearest (H : Rules C T) (HL : RulesL C (some (L, xs)) TL) {i : Nat} (hi : i + 5 ≤ L) (hL : L ≤ 2560) {S : Mem} (R : Rel S) (nx : ∀ S', Rel S' → TL 1435 [some (.ref 99), some (.ref 0), some (.ref 25), some (.int (nI i))] [] S') : TL 760 [some (.ref 99), some (.ref 0), some (.ref 25), some (.int (nI i))] [] S := by
  obtain ⟨K, n, row, q, lt, l, D⟩ := R
  have v1 : vp_in (nI i + 1) L := by rw [nI_1]; exact vp_in_nI (by omega) (by omega)
  have v2 : vp_in (nI i + 2) L := by rw [show nI i + 2 = nI (i + 2) from nI_add i 2]; exact vp_in_nI (by omega) (by omega)
  have v3 : vp_in (nI i + 3) L := by rw [show nI i + 3 = nI (i + 3) from nI_add i 3]; exact vp_in_nI (by omega) (by omega)
  have v4 : vp_in (nI i + 4) L := by rw [show nI i + 4 = nI (i + 4) from nI_add i 4]; exact vp_in_nI (by omega) (by omega)
  repeat' (first | (with_reducible refine ⟨v1, ?_⟩) | (with_reducible refine ⟨v2, ?_⟩) | (with_reducible refine ⟨v3, ?_⟩) | (with_reducible refine ⟨v4, ?_⟩) | (refine HL [1435] _ _ _ _ ?_; (conv => whnf); try (show TL _ [_, _, _, _] _ _)) | refine br_t (by first | rfl | assumption) ?_ | refine br_f (by assumption) ?_ | refine ⟨by decide, ?_⟩ | refine ⟨by assumption, ?_⟩ | fail)
  refine X4_nearest H D.c (fun S1 s1 => ?_)
  repeat' (first | (with_reducible refine ⟨v1, ?_⟩) | (with_reducible refine ⟨v2, ?_⟩) | (with_reducible refine ⟨v3, ?_⟩) | (with_reducible refine ⟨v4, ?_⟩) | (refine HL [1435] _ _ _ _ ?_; (conv => whnf); try (show TL _ [_, _, _, _] _ _)) | refine br_t (by first | rfl | assumption) ?_ | refine br_f (by assumption) ?_ | refine ⟨by decide, ?_⟩ | refine ⟨by assumption, ?_⟩ | fail)
  refine X5_nearest H (D.mX s1) (fun S2 s2 => ?_)
  repeat' (first | (with_reducible refine ⟨v1, ?_⟩) | (with_reducible refine ⟨v2, ?_⟩) | (with_reducible refine ⟨v3, ?_⟩) | (with_reducible refine ⟨v4, ?_⟩) | (refine HL [1435] _ _ _ _ ?_; (conv => whnf); try (show TL _ [_, _, _, _] _ _)) | refine br_t (by first | rfl | assumption) ?_ | refine br_f (by assumption) ?_ | refine ⟨by decide, ?_⟩ | refine ⟨by assumption, ?_⟩ | fail)
  all_goals exact Halt.mk (nx S2 (D.ansX s1 s2))
set_option maxRecDepth 100000 in
theorem LC_order (H : Rules C T) (HL : RulesL C (some (L, xs)) TL) {i : Nat} (hi : i + 5 ≤ L) (hL : L ≤ 2560) {S : Mem} (R : Rel S) (nx : ∀ S', Rel S' → TL 1435 [some (.ref 99), some (.ref 0), some (.ref 25), some (.int (nI i))] [] S') : TL 783 [some (.ref 99), some (.ref 0), some (.ref 25), some (.int (nI i))] [] S := by
  obtain ⟨K, n, row, q, lt, l, D⟩ := R
  have v1 : vp_in (nI i + 1) L := by rw [nI_1]; exact vp_in_nI (by omega) (by omega)
  have v2 : vp_in (nI i + 2) L := by rw [show nI i + 2 = nI (i + 2) from nI_add i 2]; exact vp_in_nI (by omega) (by omega)
  have v3 : vp_in (nI i + 3) L := by rw [show nI i + 3 = nI (i + 3) from nI_add i 3]; exact vp_in_nI (by omega) (by omega)
  have v4 : vp_in (nI i + 4) L := by rw [show nI i + 4 = nI (i + 4) from nI_add i 4]; exact vp_in_nI (by omega) (by omega)
  repeat' (first | (with_reducible refine ⟨v1, ?_⟩) | (with_reducible refine ⟨v2, ?_⟩) | (with_reducible refine ⟨v3, ?_⟩) | (with_reducible refine ⟨v4, ?_⟩) | (refine HL [1435] _ _ _ _ ?_; (conv => whnf); try (show TL _ [_, _, _, _] _ _)) | refine br_t (by first | rfl | assumption) ?_ | refine br_f (by assumption) ?_ | refine ⟨by decide, ?_⟩ | refine ⟨by assumption, ?_⟩ | fail)
  refine X4_order H D.c (fun S1 s1 => ?_)
  repeat' (first | (with_reducible refine ⟨v1, ?_⟩) | (with_reducible refine ⟨v2, ?_⟩) | (with_reducible refine ⟨v3, ?_⟩) | (with_reducible refine ⟨v4, ?_⟩) | (refine HL [1435] _ _ _ _ ?_; (conv => whnf); try (show TL _ [_, _, _, _] _ _)) | refine br_t (by first | rfl | assumption) ?_ | refine br_f (by assumption) ?_ | refine ⟨by decide, ?_⟩ | refine ⟨by assumption, ?_⟩ | fail)
  refine X5_order H (D.mX s1) (fun S2 s2 => ?_)
  repeat' (first | (with_reducible refine ⟨v1, ?_⟩) | (with_reducible refine ⟨v2, ?_⟩) | (with_reducible refine ⟨v3, ?_⟩) | (with_reducible refine ⟨v4, ?_⟩) | (refine HL [1435] _ _ _ _ ?_; (conv => whnf); try (show TL _ [_, _, _, _] _ _)) | refine br_t (by first | rfl | assumption) ?_ | refine br_f (by assumption) ?_ | refine ⟨by decide, ?_⟩ | refine ⟨by assumption, ?_⟩ | fail)
  all_goals exact Halt.mk (nx S2 (D.ansX s1 s2))
set_option maxRecDepth 100000 in
theorem LC_share (H : Rules C T) (HL : RulesL C (some (L, xs)) TL) {i : Nat} (hi : i + 5 ≤ L) (hL : L ≤ 2560) {S : Mem} (R : Rel S) (nx : ∀ S', Rel S' → TL 1435 [some (.ref 99), some (.ref 0), some (.ref 25), some (.int (nI i))] [] S') : TL 826 [some (.ref 99), some (.ref 0), some (.ref 25), some (.int (nI i))] [] S := by
  obtain ⟨K, n, row, q, lt, l, D⟩ := R
  have v1 : vp_in (nI i + 1) L := by rw [nI_1]; exact vp_in_nI (by omega) (by omega)
  have v2 : vp_in (nI i + 2) L := by rw [show nI i + 2 = nI (i + 2) from nI_add i 2]; exact vp_in_nI (by omega) (by omega)
  have v3 : vp_in (nI i + 3) L := by rw [show nI i + 3 = nI (i + 3) from nI_add i 3]; exact vp_in_nI (by omega) (by omega)
  have v4 : vp_in (nI i + 4) L := by rw [show nI i + 4 = nI (i + 4) from nI_add i 4]; exact vp_in_nI (by omega) (by omega)
  repeat' (first | (with_reducible refine ⟨v1, ?_⟩) | (with_reducible refine ⟨v2, ?_⟩) | (with_reducible refine ⟨v3, ?_⟩) | (with_reducible refine ⟨v4, ?_⟩) | (refine HL [1435] _ _ _ _ ?_; (conv => whnf); try (show TL _ [_, _, _, _] _ _)) | refine br_t (by first | rfl | assumption) ?_ | refine br_f (by assumption) ?_ | refine ⟨by decide, ?_⟩ | refine ⟨by assumption, ?_⟩ | fail)
  refine X4_share H D.c (fun S1 s1 => ?_)
  repeat' (first | (with_reducible refine ⟨v1, ?_⟩) | (with_reducible refine ⟨v2, ?_⟩) | (with_reducible refine ⟨v3, ?_⟩) | (with_reducible refine ⟨v4, ?_⟩) | (refine HL [1435] _ _ _ _ ?_; (conv => whnf); try (show TL _ [_, _, _, _] _ _)) | refine br_t (by first | rfl | assumption) ?_ | refine br_f (by assumption) ?_ | refine ⟨by decide, ?_⟩ | refine ⟨by assumption, ?_⟩ | fail)
  refine X5_share H (D.mX s1) (fun S2 s2 => ?_)
  repeat' (first | (with_reducible refine ⟨v1, ?_⟩) | (with_reducible refine ⟨v2, ?_⟩) | (with_reducible refine ⟨v3, ?_⟩) | (with_reducible refine ⟨v4, ?_⟩) | (refine HL [1435] _ _ _ _ ?_; (conv => whnf); try (show TL _ [_, _, _, _] _ _)) | refine br_t (by first | rfl | assumption) ?_ | refine br_f (by assumption) ?_ | refine ⟨by decide, ?_⟩ | refine ⟨by assumption, ?_⟩ | fail)
  all_goals exact Halt.mk (nx S2 (D.ansX s1 s2))
set_option maxRecDepth 100000 in
theorem LC_together (H : Rules C T) (HL : RulesL C (some (L, xs)) TL) {i : Nat} (hi : i + 5 ≤ L) (hL : L ≤ 2560) {S : Mem} (R : Rel S) (nx : ∀ S', Rel S' → TL 1435 [some (.ref 99), some (.ref 0), some (.ref 25), some (.int (nI i))] [] S') : TL 859 [some (.ref 99), some (.ref 0), some (.ref 25), some (.int (nI i))] [] S := by
  obtain ⟨K, n, row, q, lt, l, D⟩ := R
  have v1 : vp_in (nI i + 1) L := by rw [nI_1]; exact vp_in_nI (by omega) (by omega)
  have v2 : vp_in (nI i + 2) L := by rw [show nI i + 2 = nI (i + 2) from nI_add i 2]; exact vp_in_nI (by omega) (by omega)
  have v3 : vp_in (nI i + 3) L := by rw [show nI i + 3 = nI (i + 3) from nI_add i 3]; exact vp_in_nI (by omega) (by omega)
  have v4 : vp_in (nI i + 4) L := by rw [show nI i + 4 = nI (i + 4) from nI_add i 4]; exact vp_in_nI (by omega) (by omega)
  repeat' (first | (with_reducible refine ⟨v1, ?_⟩) | (with_reducible refine ⟨v2, ?_⟩) | (with_reducible refine ⟨v3, ?_⟩) | (with_reducible refine ⟨v4, ?_⟩) | (refine HL [1435] _ _ _ _ ?_; (conv => whnf); try (show TL _ [_, _, _, _] _ _)) | refine br_t (by first | rfl | assumption) ?_ | refine br_f (by assumption) ?_ | refine ⟨by decide, ?_⟩ | refine ⟨by assumption, ?_⟩ | fail)
  by_cases hz : two2 n (xs (nI i + 1).toNatClampNeg) (xs (nI i + 2).toNatClampNeg)
  · refine X4_together H D.c (fun _ S1 s1 => ?_) (fun h => absurd hz h)
    repeat' (first | (with_reducible refine ⟨v1, ?_⟩) | (with_reducible refine ⟨v2, ?_⟩) | (with_reducible refine ⟨v3, ?_⟩) | (with_reducible refine ⟨v4, ?_⟩) | (refine HL [1435] _ _ _ _ ?_; (conv => whnf); try (show TL _ [_, _, _, _] _ _)) | refine br_t (by first | rfl | assumption) ?_ | refine br_f (by assumption) ?_ | refine ⟨by decide, ?_⟩ | refine ⟨by assumption, ?_⟩ | fail)
    refine X5_together H (D.mX s1) D.b (fun _ S2 s2 => ?_) (fun h => absurd hz h)
    repeat' (first | (with_reducible refine ⟨v1, ?_⟩) | (with_reducible refine ⟨v2, ?_⟩) | (with_reducible refine ⟨v3, ?_⟩) | (with_reducible refine ⟨v4, ?_⟩) | (refine HL [1435] _ _ _ _ ?_; (conv => whnf); try (show TL _ [_, _, _, _] _ _)) | refine br_t (by first | rfl | assumption) ?_ | refine br_f (by assumption) ?_ | refine ⟨by decide, ?_⟩ | refine ⟨by assumption, ?_⟩ | fail)
    all_goals exact Halt.mk (nx S2 (D.ansX s1 s2))
  · refine X4_together H D.c (fun h => absurd h hz) (fun _ S1 s1 => ?_)
    repeat' (first | (with_reducible refine ⟨v1, ?_⟩) | (with_reducible refine ⟨v2, ?_⟩) | (with_reducible refine ⟨v3, ?_⟩) | (with_reducible refine ⟨v4, ?_⟩) | (refine HL [1435] _ _ _ _ ?_; (conv => whnf); try (show TL _ [_, _, _, _] _ _)) | refine br_t (by first | rfl | assumption) ?_ | refine br_f (by assumption) ?_ | refine ⟨by decide, ?_⟩ | refine ⟨by assumption, ?_⟩ | fail)
    refine X5_together H (D.mX s1) D.b (fun h => absurd h hz) (fun _ S2 s2 => ?_)
    repeat' (first | (with_reducible refine ⟨v1, ?_⟩) | (with_reducible refine ⟨v2, ?_⟩) | (with_reducible refine ⟨v3, ?_⟩) | (with_reducible refine ⟨v4, ?_⟩) | (refine HL [1435] _ _ _ _ ?_; (conv => whnf); try (show TL _ [_, _, _, _] _ _)) | refine br_t (by first | rfl | assumption) ?_ | refine br_f (by assumption) ?_ | refine ⟨by decide, ?_⟩ | refine ⟨by assumption, ?_⟩ | fail)
    all_goals exact Halt.mk (nx S2 (D.ansX s1 s2))
set_option maxRecDepth 100000 in
theorem LC_leastLoad (H : Rules C T) (HL : RulesL C (some (L, xs)) TL) {i : Nat} (hi : i + 5 ≤ L) (hL : L ≤ 2560) {S : Mem} (R : Rel S) (nx : ∀ S', Rel S' → TL 1435 [some (.ref 99), some (.ref 0), some (.ref 25), some (.int (nI i))] [] S') : TL 892 [some (.ref 99), some (.ref 0), some (.ref 25), some (.int (nI i))] [] S := by
  obtain ⟨K, n, row, q, lt, l, D⟩ := R
  have v1 : vp_in (nI i + 1) L := by rw [nI_1]; exact vp_in_nI (by omega) (by omega)
  have v2 : vp_in (nI i + 2) L := by rw [show nI i + 2 = nI (i + 2) from nI_add i 2]; exact vp_in_nI (by omega) (by omega)
  have v3 : vp_in (nI i + 3) L := by rw [show nI i + 3 = nI (i + 3) from nI_add i 3]; exact vp_in_nI (by omega) (by omega)
  have v4 : vp_in (nI i + 4) L := by rw [show nI i + 4 = nI (i + 4) from nI_add i 4]; exact vp_in_nI (by omega) (by omega)
  repeat' (first | (with_reducible refine ⟨v1, ?_⟩) | (with_reducible refine ⟨v2, ?_⟩) | (with_reducible refine ⟨v3, ?_⟩) | (with_reducible refine ⟨v4, ?_⟩) | (refine HL [1435] _ _ _ _ ?_; (conv => whnf); try (show TL _ [_, _, _, _] _ _)) | refine br_t (by first | rfl | assumption) ?_ | refine br_f (by assumption) ?_ | refine ⟨by decide, ?_⟩ | refine ⟨by assumption, ?_⟩ | fail)
  refine X4_leastLoad H D.c (fun S1 s1 => ?_)
  repeat' (first | (with_reducible refine ⟨v1, ?_⟩) | (with_reducible refine ⟨v2, ?_⟩) | (with_reducible refine ⟨v3, ?_⟩) | (with_reducible refine ⟨v4, ?_⟩) | (refine HL [1435] _ _ _ _ ?_; (conv => whnf); try (show TL _ [_, _, _, _] _ _)) | refine br_t (by first | rfl | assumption) ?_ | refine br_f (by assumption) ?_ | refine ⟨by decide, ?_⟩ | refine ⟨by assumption, ?_⟩ | fail)
  refine X5_leastLoad H (D.mX s1) (fun S2 s2 => ?_)
  repeat' (first | (with_reducible refine ⟨v1, ?_⟩) | (with_reducible refine ⟨v2, ?_⟩) | (with_reducible refine ⟨v3, ?_⟩) | (with_reducible refine ⟨v4, ?_⟩) | (refine HL [1435] _ _ _ _ ?_; (conv => whnf); try (show TL _ [_, _, _, _] _ _)) | refine br_t (by first | rfl | assumption) ?_ | refine br_f (by assumption) ?_ | refine ⟨by decide, ?_⟩ | refine ⟨by assumption, ?_⟩ | fail)
  all_goals exact Halt.mk (nx S2 (D.ansX s1 s2))
set_option maxRecDepth 100000 in
theorem LC_saves (H : Rules C T) (HL : RulesL C (some (L, xs)) TL) {i : Nat} (hi : i + 5 ≤ L) (hL : L ≤ 2560) {S : Mem} (R : Rel S) (nx : ∀ S', Rel S' → TL 1435 [some (.ref 99), some (.ref 0), some (.ref 25), some (.int (nI i))] [] S') : TL 915 [some (.ref 99), some (.ref 0), some (.ref 25), some (.int (nI i))] [] S := by
  obtain ⟨K, n, row, q, lt, l, D⟩ := R
  have v1 : vp_in (nI i + 1) L := by rw [nI_1]; exact vp_in_nI (by omega) (by omega)
  have v2 : vp_in (nI i + 2) L := by rw [show nI i + 2 = nI (i + 2) from nI_add i 2]; exact vp_in_nI (by omega) (by omega)
  have v3 : vp_in (nI i + 3) L := by rw [show nI i + 3 = nI (i + 3) from nI_add i 3]; exact vp_in_nI (by omega) (by omega)
  have v4 : vp_in (nI i + 4) L := by rw [show nI i + 4 = nI (i + 4) from nI_add i 4]; exact vp_in_nI (by omega) (by omega)
  repeat' (first | (with_reducible refine ⟨v1, ?_⟩) | (with_reducible refine ⟨v2, ?_⟩) | (with_reducible refine ⟨v3, ?_⟩) | (with_reducible refine ⟨v4, ?_⟩) | (refine HL [1435] _ _ _ _ ?_; (conv => whnf); try (show TL _ [_, _, _, _] _ _)) | refine br_t (by first | rfl | assumption) ?_ | refine br_f (by assumption) ?_ | refine ⟨by decide, ?_⟩ | refine ⟨by assumption, ?_⟩ | fail)
  refine X4_saves H D.c (fun S1 s1 => ?_)
  repeat' (first | (with_reducible refine ⟨v1, ?_⟩) | (with_reducible refine ⟨v2, ?_⟩) | (with_reducible refine ⟨v3, ?_⟩) | (with_reducible refine ⟨v4, ?_⟩) | (refine HL [1435] _ _ _ _ ?_; (conv => whnf); try (show TL _ [_, _, _, _] _ _)) | refine br_t (by first | rfl | assumption) ?_ | refine br_f (by assumption) ?_ | refine ⟨by decide, ?_⟩ | refine ⟨by assumption, ?_⟩ | fail)
  refine X5_saves H (D.mX s1) D.b (fun S2 s2 => ?_)
  repeat' (first | (with_reducible refine ⟨v1, ?_⟩) | (with_reducible refine ⟨v2, ?_⟩) | (with_reducible refine ⟨v3, ?_⟩) | (with_reducible refine ⟨v4, ?_⟩) | (refine HL [1435] _ _ _ _ ?_; (conv => whnf); try (show TL _ [_, _, _, _] _ _)) | refine br_t (by first | rfl | assumption) ?_ | refine br_f (by assumption) ?_ | refine ⟨by decide, ?_⟩ | refine ⟨by assumption, ?_⟩ | fail)
  all_goals exact Halt.mk (nx S2 (D.ansX s1 s2))
set_option maxRecDepth 100000 in
theorem LC_waitFor (H : Rules C T) (HL : RulesL C (some (L, xs)) TL) {i : Nat} (hi : i + 5 ≤ L) (hL : L ≤ 2560) {S : Mem} (R : Rel S) (nx : ∀ S', Rel S' → TL 1435 [some (.ref 99), some (.ref 0), some (.ref 25), some (.int (nI i))] [] S') : TL 938 [some (.ref 99), some (.ref 0), some (.ref 25), some (.int (nI i))] [] S := by
  obtain ⟨K, n, row, q, lt, l, D⟩ := R
  have v1 : vp_in (nI i + 1) L := by rw [nI_1]; exact vp_in_nI (by omega) (by omega)
  have v2 : vp_in (nI i + 2) L := by rw [show nI i + 2 = nI (i + 2) from nI_add i 2]; exact vp_in_nI (by omega) (by omega)
  have v3 : vp_in (nI i + 3) L := by rw [show nI i + 3 = nI (i + 3) from nI_add i 3]; exact vp_in_nI (by omega) (by omega)
  have v4 : vp_in (nI i + 4) L := by rw [show nI i + 4 = nI (i + 4) from nI_add i 4]; exact vp_in_nI (by omega) (by omega)
  repeat' (first | (with_reducible refine ⟨v1, ?_⟩) | (with_reducible refine ⟨v2, ?_⟩) | (with_reducible refine ⟨v3, ?_⟩) | (with_reducible refine ⟨v4, ?_⟩) | (refine HL [1435] _ _ _ _ ?_; (conv => whnf); try (show TL _ [_, _, _, _] _ _)) | refine br_t (by first | rfl | assumption) ?_ | refine br_f (by assumption) ?_ | refine ⟨by decide, ?_⟩ | refine ⟨by assumption, ?_⟩ | fail)
  refine X4_waitFor H D.c (fun S1 s1 => ?_)
  repeat' (first | (with_reducible refine ⟨v1, ?_⟩) | (with_reducible refine ⟨v2, ?_⟩) | (with_reducible refine ⟨v3, ?_⟩) | (with_reducible refine ⟨v4, ?_⟩) | (refine HL [1435] _ _ _ _ ?_; (conv => whnf); try (show TL _ [_, _, _, _] _ _)) | refine br_t (by first | rfl | assumption) ?_ | refine br_f (by assumption) ?_ | refine ⟨by decide, ?_⟩ | refine ⟨by assumption, ?_⟩ | fail)
  refine X5_waitFor H (D.mX s1) (fun S2 s2 => ?_)
  repeat' (first | (with_reducible refine ⟨v1, ?_⟩) | (with_reducible refine ⟨v2, ?_⟩) | (with_reducible refine ⟨v3, ?_⟩) | (with_reducible refine ⟨v4, ?_⟩) | (refine HL [1435] _ _ _ _ ?_; (conv => whnf); try (show TL _ [_, _, _, _] _ _)) | refine br_t (by first | rfl | assumption) ?_ | refine br_f (by assumption) ?_ | refine ⟨by decide, ?_⟩ | refine ⟨by assumption, ?_⟩ | fail)
  all_goals exact Halt.mk (nx S2 (D.ansX s1 s2))
set_option maxRecDepth 100000 in
theorem LC_first (H : Rules C T) (HL : RulesL C (some (L, xs)) TL) {i : Nat} (hi : i + 5 ≤ L) (hL : L ≤ 2560) {S : Mem} (R : Rel S) (nx : ∀ S', Rel S' → TL 1435 [some (.ref 99), some (.ref 0), some (.ref 25), some (.int (nI i))] [] S') : TL 981 [some (.ref 99), some (.ref 0), some (.ref 25), some (.int (nI i))] [] S := by
  obtain ⟨K, n, row, q, lt, l, D⟩ := R
  have v1 : vp_in (nI i + 1) L := by rw [nI_1]; exact vp_in_nI (by omega) (by omega)
  have v2 : vp_in (nI i + 2) L := by rw [show nI i + 2 = nI (i + 2) from nI_add i 2]; exact vp_in_nI (by omega) (by omega)
  have v3 : vp_in (nI i + 3) L := by rw [show nI i + 3 = nI (i + 3) from nI_add i 3]; exact vp_in_nI (by omega) (by omega)
  have v4 : vp_in (nI i + 4) L := by rw [show nI i + 4 = nI (i + 4) from nI_add i 4]; exact vp_in_nI (by omega) (by omega)
  repeat' (first | (with_reducible refine ⟨v1, ?_⟩) | (with_reducible refine ⟨v2, ?_⟩) | (with_reducible refine ⟨v3, ?_⟩) | (with_reducible refine ⟨v4, ?_⟩) | (refine HL [1435] _ _ _ _ ?_; (conv => whnf); try (show TL _ [_, _, _, _] _ _)) | refine br_t (by first | rfl | assumption) ?_ | refine br_f (by assumption) ?_ | refine ⟨by decide, ?_⟩ | refine ⟨by assumption, ?_⟩ | fail)
  refine X4_first H D.c (fun S1 s1 => ?_)
  repeat' (first | (with_reducible refine ⟨v1, ?_⟩) | (with_reducible refine ⟨v2, ?_⟩) | (with_reducible refine ⟨v3, ?_⟩) | (with_reducible refine ⟨v4, ?_⟩) | (refine HL [1435] _ _ _ _ ?_; (conv => whnf); try (show TL _ [_, _, _, _] _ _)) | refine br_t (by first | rfl | assumption) ?_ | refine br_f (by assumption) ?_ | refine ⟨by decide, ?_⟩ | refine ⟨by assumption, ?_⟩ | fail)
  refine X5_first H (D.mX s1) (fun S2 s2 => ?_)
  repeat' (first | (with_reducible refine ⟨v1, ?_⟩) | (with_reducible refine ⟨v2, ?_⟩) | (with_reducible refine ⟨v3, ?_⟩) | (with_reducible refine ⟨v4, ?_⟩) | (refine HL [1435] _ _ _ _ ?_; (conv => whnf); try (show TL _ [_, _, _, _] _ _)) | refine br_t (by first | rfl | assumption) ?_ | refine br_f (by assumption) ?_ | refine ⟨by decide, ?_⟩ | refine ⟨by assumption, ?_⟩ | fail)
  all_goals exact Halt.mk (nx S2 (D.ansX s1 s2))
set_option maxRecDepth 100000 in
theorem LC_cardBest (H : Rules C T) (HL : RulesL C (some (L, xs)) TL) {i : Nat} (hi : i + 5 ≤ L) (hL : L ≤ 2560) {S : Mem} (R : Rel S) (nx : ∀ S', Rel S' → TL 1435 [some (.ref 99), some (.ref 0), some (.ref 25), some (.int (nI i))] [] S') : TL 1004 [some (.ref 99), some (.ref 0), some (.ref 25), some (.int (nI i))] [] S := by
  obtain ⟨K, n, row, q, lt, l, D⟩ := R
  have v1 : vp_in (nI i + 1) L := by rw [nI_1]; exact vp_in_nI (by omega) (by omega)
  have v2 : vp_in (nI i + 2) L := by rw [show nI i + 2 = nI (i + 2) from nI_add i 2]; exact vp_in_nI (by omega) (by omega)
  have v3 : vp_in (nI i + 3) L := by rw [show nI i + 3 = nI (i + 3) from nI_add i 3]; exact vp_in_nI (by omega) (by omega)
  have v4 : vp_in (nI i + 4) L := by rw [show nI i + 4 = nI (i + 4) from nI_add i 4]; exact vp_in_nI (by omega) (by omega)
  repeat' (first | (with_reducible refine ⟨v1, ?_⟩) | (with_reducible refine ⟨v2, ?_⟩) | (with_reducible refine ⟨v3, ?_⟩) | (with_reducible refine ⟨v4, ?_⟩) | (refine HL [1435] _ _ _ _ ?_; (conv => whnf); try (show TL _ [_, _, _, _] _ _)) | refine br_t (by first | rfl | assumption) ?_ | refine br_f (by assumption) ?_ | refine ⟨by decide, ?_⟩ | refine ⟨by assumption, ?_⟩ | fail)
  refine X4_cardBest H D.c (fun S1 s1 => ?_)
  repeat' (first | (with_reducible refine ⟨v1, ?_⟩) | (with_reducible refine ⟨v2, ?_⟩) | (with_reducible refine ⟨v3, ?_⟩) | (with_reducible refine ⟨v4, ?_⟩) | (refine HL [1435] _ _ _ _ ?_; (conv => whnf); try (show TL _ [_, _, _, _] _ _)) | refine br_t (by first | rfl | assumption) ?_ | refine br_f (by assumption) ?_ | refine ⟨by decide, ?_⟩ | refine ⟨by assumption, ?_⟩ | fail)
  refine X5_cardBest H (D.mX s1) (fun S2 s2 => ?_)
  repeat' (first | (with_reducible refine ⟨v1, ?_⟩) | (with_reducible refine ⟨v2, ?_⟩) | (with_reducible refine ⟨v3, ?_⟩) | (with_reducible refine ⟨v4, ?_⟩) | (refine HL [1435] _ _ _ _ ?_; (conv => whnf); try (show TL _ [_, _, _, _] _ _)) | refine br_t (by first | rfl | assumption) ?_ | refine br_f (by assumption) ?_ | refine ⟨by decide, ?_⟩ | refine ⟨by assumption, ?_⟩ | fail)
  all_goals exact Halt.mk (nx S2 (D.ansX s1 s2))
set_option maxRecDepth 100000 in
theorem LC_tips (H : Rules C T) (HL : RulesL C (some (L, xs)) TL) {i : Nat} (hi : i + 5 ≤ L) (hL : L ≤ 2560) {S : Mem} (R : Rel S) (nx : ∀ S', Rel S' → TL 1435 [some (.ref 99), some (.ref 0), some (.ref 25), some (.int (nI i))] [] S') : TL 1027 [some (.ref 99), some (.ref 0), some (.ref 25), some (.int (nI i))] [] S := by
  obtain ⟨K, n, row, q, lt, l, D⟩ := R
  have v1 : vp_in (nI i + 1) L := by rw [nI_1]; exact vp_in_nI (by omega) (by omega)
  have v2 : vp_in (nI i + 2) L := by rw [show nI i + 2 = nI (i + 2) from nI_add i 2]; exact vp_in_nI (by omega) (by omega)
  have v3 : vp_in (nI i + 3) L := by rw [show nI i + 3 = nI (i + 3) from nI_add i 3]; exact vp_in_nI (by omega) (by omega)
  have v4 : vp_in (nI i + 4) L := by rw [show nI i + 4 = nI (i + 4) from nI_add i 4]; exact vp_in_nI (by omega) (by omega)
  repeat' (first | (with_reducible refine ⟨v1, ?_⟩) | (with_reducible refine ⟨v2, ?_⟩) | (with_reducible refine ⟨v3, ?_⟩) | (with_reducible refine ⟨v4, ?_⟩) | (refine HL [1435] _ _ _ _ ?_; (conv => whnf); try (show TL _ [_, _, _, _] _ _)) | refine br_t (by first | rfl | assumption) ?_ | refine br_f (by assumption) ?_ | refine ⟨by decide, ?_⟩ | refine ⟨by assumption, ?_⟩ | fail)
  refine X4_tips H D.c (fun S1 s1 => ?_)
  repeat' (first | (with_reducible refine ⟨v1, ?_⟩) | (with_reducible refine ⟨v2, ?_⟩) | (with_reducible refine ⟨v3, ?_⟩) | (with_reducible refine ⟨v4, ?_⟩) | (refine HL [1435] _ _ _ _ ?_; (conv => whnf); try (show TL _ [_, _, _, _] _ _)) | refine br_t (by first | rfl | assumption) ?_ | refine br_f (by assumption) ?_ | refine ⟨by decide, ?_⟩ | refine ⟨by assumption, ?_⟩ | fail)
  refine X5_tips H (D.mX s1) D.b (fun S2 s2 => ?_)
  repeat' (first | (with_reducible refine ⟨v1, ?_⟩) | (with_reducible refine ⟨v2, ?_⟩) | (with_reducible refine ⟨v3, ?_⟩) | (with_reducible refine ⟨v4, ?_⟩) | (refine HL [1435] _ _ _ _ ?_; (conv => whnf); try (show TL _ [_, _, _, _] _ _)) | refine br_t (by first | rfl | assumption) ?_ | refine br_f (by assumption) ?_ | refine ⟨by decide, ?_⟩ | refine ⟨by assumption, ?_⟩ | fail)
  all_goals exact Halt.mk (nx S2 (D.ansX s1 s2))
set_option maxRecDepth 100000 in
theorem LC_dearest (H : Rules C T) (HL : RulesL C (some (L, xs)) TL) {i : Nat} (hi : i + 5 ≤ L) (hL : L ≤ 2560) {S : Mem} (R : Rel S) (nx : ∀ S', Rel S' → TL 1435 [some (.ref 99), some (.ref 0), some (.ref 25), some (.int (nI i))] [] S') : TL 1050 [some (.ref 99), some (.ref 0), some (.ref 25), some (.int (nI i))] [] S := by
  obtain ⟨K, n, row, q, lt, l, D⟩ := R
  have v1 : vp_in (nI i + 1) L := by rw [nI_1]; exact vp_in_nI (by omega) (by omega)
  have v2 : vp_in (nI i + 2) L := by rw [show nI i + 2 = nI (i + 2) from nI_add i 2]; exact vp_in_nI (by omega) (by omega)
  have v3 : vp_in (nI i + 3) L := by rw [show nI i + 3 = nI (i + 3) from nI_add i 3]; exact vp_in_nI (by omega) (by omega)
  have v4 : vp_in (nI i + 4) L := by rw [show nI i + 4 = nI (i + 4) from nI_add i 4]; exact vp_in_nI (by omega) (by omega)
  repeat' (first | (with_reducible refine ⟨v1, ?_⟩) | (with_reducible refine ⟨v2, ?_⟩) | (with_reducible refine ⟨v3, ?_⟩) | (with_reducible refine ⟨v4, ?_⟩) | (refine HL [1435] _ _ _ _ ?_; (conv => whnf); try (show TL _ [_, _, _, _] _ _)) | refine br_t (by first | rfl | assumption) ?_ | refine br_f (by assumption) ?_ | refine ⟨by decide, ?_⟩ | refine ⟨by assumption, ?_⟩ | fail)
  refine X4_dearest H D.c (fun S1 s1 => ?_)
  repeat' (first | (with_reducible refine ⟨v1, ?_⟩) | (with_reducible refine ⟨v2, ?_⟩) | (with_reducible refine ⟨v3, ?_⟩) | (with_reducible refine ⟨v4, ?_⟩) | (refine HL [1435] _ _ _ _ ?_; (conv => whnf); try (show TL _ [_, _, _, _] _ _)) | refine br_t (by first | rfl | assumption) ?_ | refine br_f (by assumption) ?_ | refine ⟨by decide, ?_⟩ | refine ⟨by assumption, ?_⟩ | fail)
  refine X5_dearest H (D.mX s1) D.b (fun S2 s2 => ?_)
  repeat' (first | (with_reducible refine ⟨v1, ?_⟩) | (with_reducible refine ⟨v2, ?_⟩) | (with_reducible refine ⟨v3, ?_⟩) | (with_reducible refine ⟨v4, ?_⟩) | (refine HL [1435] _ _ _ _ ?_; (conv => whnf); try (show TL _ [_, _, _, _] _ _)) | refine br_t (by first | rfl | assumption) ?_ | refine br_f (by assumption) ?_ | refine ⟨by decide, ?_⟩ | refine ⟨by assumption, ?_⟩ | fail)
  all_goals exact Halt.mk (nx S2 (D.ansX s1 s2))
set_option maxRecDepth 100000 in
theorem LC_overlap (H : Rules C T) (HL : RulesL C (some (L, xs)) TL) {i : Nat} (hi : i + 5 ≤ L) (hL : L ≤ 2560) {S : Mem} (R : Rel S) (nx : ∀ S', Rel S' → TL 1435 [some (.ref 99), some (.ref 0), some (.ref 25), some (.int (nI i))] [] S') : TL 1073 [some (.ref 99), some (.ref 0), some (.ref 25), some (.int (nI i))] [] S := by
  obtain ⟨K, n, row, q, lt, l, D⟩ := R
  have v1 : vp_in (nI i + 1) L := by rw [nI_1]; exact vp_in_nI (by omega) (by omega)
  have v2 : vp_in (nI i + 2) L := by rw [show nI i + 2 = nI (i + 2) from nI_add i 2]; exact vp_in_nI (by omega) (by omega)
  have v3 : vp_in (nI i + 3) L := by rw [show nI i + 3 = nI (i + 3) from nI_add i 3]; exact vp_in_nI (by omega) (by omega)
  have v4 : vp_in (nI i + 4) L := by rw [show nI i + 4 = nI (i + 4) from nI_add i 4]; exact vp_in_nI (by omega) (by omega)
  repeat' (first | (with_reducible refine ⟨v1, ?_⟩) | (with_reducible refine ⟨v2, ?_⟩) | (with_reducible refine ⟨v3, ?_⟩) | (with_reducible refine ⟨v4, ?_⟩) | (refine HL [1435] _ _ _ _ ?_; (conv => whnf); try (show TL _ [_, _, _, _] _ _)) | refine br_t (by first | rfl | assumption) ?_ | refine br_f (by assumption) ?_ | refine ⟨by decide, ?_⟩ | refine ⟨by assumption, ?_⟩ | fail)
  by_cases hz : two2 n (xs (nI i + 1).toNatClampNeg) (xs (nI i + 2).toNatClampNeg)
  · refine X4_overlap H D.c (fun _ S1 s1 => ?_) (fun h => absurd hz h)
    repeat' (first | (with_reducible refine ⟨v1, ?_⟩) | (with_reducible refine ⟨v2, ?_⟩) | (with_reducible refine ⟨v3, ?_⟩) | (with_reducible refine ⟨v4, ?_⟩) | (refine HL [1435] _ _ _ _ ?_; (conv => whnf); try (show TL _ [_, _, _, _] _ _)) | refine br_t (by first | rfl | assumption) ?_ | refine br_f (by assumption) ?_ | refine ⟨by decide, ?_⟩ | refine ⟨by assumption, ?_⟩ | fail)
    refine X5_overlap H (D.mX s1) D.b (fun _ S2 s2 => ?_) (fun h => absurd hz h)
    repeat' (first | (with_reducible refine ⟨v1, ?_⟩) | (with_reducible refine ⟨v2, ?_⟩) | (with_reducible refine ⟨v3, ?_⟩) | (with_reducible refine ⟨v4, ?_⟩) | (refine HL [1435] _ _ _ _ ?_; (conv => whnf); try (show TL _ [_, _, _, _] _ _)) | refine br_t (by first | rfl | assumption) ?_ | refine br_f (by assumption) ?_ | refine ⟨by decide, ?_⟩ | refine ⟨by assumption, ?_⟩ | fail)
    all_goals exact Halt.mk (nx S2 (D.ansX s1 s2))
  · refine X4_overlap H D.c (fun h => absurd h hz) (fun _ S1 s1 => ?_)
    repeat' (first | (with_reducible refine ⟨v1, ?_⟩) | (with_reducible refine ⟨v2, ?_⟩) | (with_reducible refine ⟨v3, ?_⟩) | (with_reducible refine ⟨v4, ?_⟩) | (refine HL [1435] _ _ _ _ ?_; (conv => whnf); try (show TL _ [_, _, _, _] _ _)) | refine br_t (by first | rfl | assumption) ?_ | refine br_f (by assumption) ?_ | refine ⟨by decide, ?_⟩ | refine ⟨by assumption, ?_⟩ | fail)
    refine X5_overlap H (D.mX s1) D.b (fun h => absurd h hz) (fun _ S2 s2 => ?_)
    repeat' (first | (with_reducible refine ⟨v1, ?_⟩) | (with_reducible refine ⟨v2, ?_⟩) | (with_reducible refine ⟨v3, ?_⟩) | (with_reducible refine ⟨v4, ?_⟩) | (refine HL [1435] _ _ _ _ ?_; (conv => whnf); try (show TL _ [_, _, _, _] _ _)) | refine br_t (by first | rfl | assumption) ?_ | refine br_f (by assumption) ?_ | refine ⟨by decide, ?_⟩ | refine ⟨by assumption, ?_⟩ | fail)
    all_goals exact Halt.mk (nx S2 (D.ansX s1 s2))
set_option maxRecDepth 100000 in
theorem LC_two (H : Rules C T) (HL : RulesL C (some (L, xs)) TL) {i : Nat} (hi : i + 5 ≤ L) (hL : L ≤ 2560) {S : Mem} (R : Rel S) (nx : ∀ S', Rel S' → TL 1435 [some (.ref 99), some (.ref 0), some (.ref 25), some (.int (nI i))] [] S') : TL 1116 [some (.ref 99), some (.ref 0), some (.ref 25), some (.int (nI i))] [] S := by
  obtain ⟨K, n, row, q, lt, l, D⟩ := R
  have v1 : vp_in (nI i + 1) L := by rw [nI_1]; exact vp_in_nI (by omega) (by omega)
  have v2 : vp_in (nI i + 2) L := by rw [show nI i + 2 = nI (i + 2) from nI_add i 2]; exact vp_in_nI (by omega) (by omega)
  have v3 : vp_in (nI i + 3) L := by rw [show nI i + 3 = nI (i + 3) from nI_add i 3]; exact vp_in_nI (by omega) (by omega)
  have v4 : vp_in (nI i + 4) L := by rw [show nI i + 4 = nI (i + 4) from nI_add i 4]; exact vp_in_nI (by omega) (by omega)
  repeat' (first | (with_reducible refine ⟨v1, ?_⟩) | (with_reducible refine ⟨v2, ?_⟩) | (with_reducible refine ⟨v3, ?_⟩) | (with_reducible refine ⟨v4, ?_⟩) | (refine HL [1435] _ _ _ _ ?_; (conv => whnf); try (show TL _ [_, _, _, _] _ _)) | refine br_t (by first | rfl | assumption) ?_ | refine br_f (by assumption) ?_ | refine ⟨by decide, ?_⟩ | refine ⟨by assumption, ?_⟩ | fail)
  by_cases hz : two2 n (xs (nI i + 1).toNatClampNeg) (xs (nI i + 2).toNatClampNeg)
  · refine X4_two H D.c (fun _ S1 s1 => ?_) (fun h => absurd hz h)
    repeat' (first | (with_reducible refine ⟨v1, ?_⟩) | (with_reducible refine ⟨v2, ?_⟩) | (with_reducible refine ⟨v3, ?_⟩) | (with_reducible refine ⟨v4, ?_⟩) | (refine HL [1435] _ _ _ _ ?_; (conv => whnf); try (show TL _ [_, _, _, _] _ _)) | refine br_t (by first | rfl | assumption) ?_ | refine br_f (by assumption) ?_ | refine ⟨by decide, ?_⟩ | refine ⟨by assumption, ?_⟩ | fail)
    refine X5_two H (D.mX s1) (fun _ S2 s2 => ?_) (fun h => absurd hz h)
    repeat' (first | (with_reducible refine ⟨v1, ?_⟩) | (with_reducible refine ⟨v2, ?_⟩) | (with_reducible refine ⟨v3, ?_⟩) | (with_reducible refine ⟨v4, ?_⟩) | (refine HL [1435] _ _ _ _ ?_; (conv => whnf); try (show TL _ [_, _, _, _] _ _)) | refine br_t (by first | rfl | assumption) ?_ | refine br_f (by assumption) ?_ | refine ⟨by decide, ?_⟩ | refine ⟨by assumption, ?_⟩ | fail)
    all_goals exact Halt.mk (nx S2 (D.ansX s1 s2))
  · refine X4_two H D.c (fun h => absurd h hz) (fun _ S1 s1 => ?_)
    repeat' (first | (with_reducible refine ⟨v1, ?_⟩) | (with_reducible refine ⟨v2, ?_⟩) | (with_reducible refine ⟨v3, ?_⟩) | (with_reducible refine ⟨v4, ?_⟩) | (refine HL [1435] _ _ _ _ ?_; (conv => whnf); try (show TL _ [_, _, _, _] _ _)) | refine br_t (by first | rfl | assumption) ?_ | refine br_f (by assumption) ?_ | refine ⟨by decide, ?_⟩ | refine ⟨by assumption, ?_⟩ | fail)
    refine X5_two H (D.mX s1) (fun h => absurd h hz) (fun _ S2 s2 => ?_)
    repeat' (first | (with_reducible refine ⟨v1, ?_⟩) | (with_reducible refine ⟨v2, ?_⟩) | (with_reducible refine ⟨v3, ?_⟩) | (with_reducible refine ⟨v4, ?_⟩) | (refine HL [1435] _ _ _ _ ?_; (conv => whnf); try (show TL _ [_, _, _, _] _ _)) | refine br_t (by first | rfl | assumption) ?_ | refine br_f (by assumption) ?_ | refine ⟨by decide, ?_⟩ | refine ⟨by assumption, ?_⟩ | fail)
    all_goals exact Halt.mk (nx S2 (D.ansX s1 s2))
set_option maxRecDepth 100000 in
theorem LC_inspected (H : Rules C T) (HL : RulesL C (some (L, xs)) TL) {i : Nat} (hi : i + 5 ≤ L) (hL : L ≤ 2560) {S : Mem} (R : Rel S) (nx : ∀ S', Rel S' → TL 1435 [some (.ref 99), some (.ref 0), some (.ref 25), some (.int (nI i))] [] S') : TL 1149 [some (.ref 99), some (.ref 0), some (.ref 25), some (.int (nI i))] [] S := by
  obtain ⟨K, n, row, q, lt, l, D⟩ := R
  have v1 : vp_in (nI i + 1) L := by rw [nI_1]; exact vp_in_nI (by omega) (by omega)
  have v2 : vp_in (nI i + 2) L := by rw [show nI i + 2 = nI (i + 2) from nI_add i 2]; exact vp_in_nI (by omega) (by omega)
  have v3 : vp_in (nI i + 3) L := by rw [show nI i + 3 = nI (i + 3) from nI_add i 3]; exact vp_in_nI (by omega) (by omega)
  have v4 : vp_in (nI i + 4) L := by rw [show nI i + 4 = nI (i + 4) from nI_add i 4]; exact vp_in_nI (by omega) (by omega)
  repeat' (first | (with_reducible refine ⟨v1, ?_⟩) | (with_reducible refine ⟨v2, ?_⟩) | (with_reducible refine ⟨v3, ?_⟩) | (with_reducible refine ⟨v4, ?_⟩) | (refine HL [1435] _ _ _ _ ?_; (conv => whnf); try (show TL _ [_, _, _, _] _ _)) | refine br_t (by first | rfl | assumption) ?_ | refine br_f (by assumption) ?_ | refine ⟨by decide, ?_⟩ | refine ⟨by assumption, ?_⟩ | fail)
  refine X4_inspected H D.c D.g (fun S1 s1 => ?_)
  repeat' (first | (with_reducible refine ⟨v1, ?_⟩) | (with_reducible refine ⟨v2, ?_⟩) | (with_reducible refine ⟨v3, ?_⟩) | (with_reducible refine ⟨v4, ?_⟩) | (refine HL [1435] _ _ _ _ ?_; (conv => whnf); try (show TL _ [_, _, _, _] _ _)) | refine br_t (by first | rfl | assumption) ?_ | refine br_f (by assumption) ?_ | refine ⟨by decide, ?_⟩ | refine ⟨by assumption, ?_⟩ | fail)
  refine X5_inspected H (D.mX s1) (fun S2 s2 => ?_)
  refine HL [1435] _ _ _ _ ?_
  conv => whnf
  refine HL [1435] _ _ _ _ ?_
  conv => whnf
  refine br_t ((lg_cmp_eq _ _).mpr rfl) ?_
  repeat' (first | (with_reducible refine ⟨v1, ?_⟩) | (with_reducible refine ⟨v2, ?_⟩) | (with_reducible refine ⟨v3, ?_⟩) | (with_reducible refine ⟨v4, ?_⟩) | (refine HL [1435] _ _ _ _ ?_; (conv => whnf); try (show TL _ [_, _, _, _] _ _)) | refine br_t (by first | rfl | assumption) ?_ | refine br_f (by assumption) ?_ | refine ⟨by decide, ?_⟩ | refine ⟨by assumption, ?_⟩ | fail)
  all_goals exact Halt.mk (nx S2 (D.ansX s1 s2))
set_option maxRecDepth 100000 in
theorem LC_likely (H : Rules C T) (HL : RulesL C (some (L, xs)) TL) {i : Nat} (hi : i + 5 ≤ L) (hL : L ≤ 2560) {S : Mem} (R : Rel S) (nx : ∀ S', Rel S' → TL 1435 [some (.ref 99), some (.ref 0), some (.ref 25), some (.int (nI i))] [] S') : TL 1183 [some (.ref 99), some (.ref 0), some (.ref 25), some (.int (nI i))] [] S := by
  obtain ⟨K, n, row, q, lt, l, D⟩ := R
  have v1 : vp_in (nI i + 1) L := by rw [nI_1]; exact vp_in_nI (by omega) (by omega)
  have v2 : vp_in (nI i + 2) L := by rw [show nI i + 2 = nI (i + 2) from nI_add i 2]; exact vp_in_nI (by omega) (by omega)
  have v3 : vp_in (nI i + 3) L := by rw [show nI i + 3 = nI (i + 3) from nI_add i 3]; exact vp_in_nI (by omega) (by omega)
  have v4 : vp_in (nI i + 4) L := by rw [show nI i + 4 = nI (i + 4) from nI_add i 4]; exact vp_in_nI (by omega) (by omega)
  repeat' (first | (with_reducible refine ⟨v1, ?_⟩) | (with_reducible refine ⟨v2, ?_⟩) | (with_reducible refine ⟨v3, ?_⟩) | (with_reducible refine ⟨v4, ?_⟩) | (refine HL [1435] _ _ _ _ ?_; (conv => whnf); try (show TL _ [_, _, _, _] _ _)) | refine br_t (by first | rfl | assumption) ?_ | refine br_f (by assumption) ?_ | refine ⟨by decide, ?_⟩ | refine ⟨by assumption, ?_⟩ | fail)
  refine X4_likely H D.c (fun S1 s1 => ?_)
  repeat' (first | (with_reducible refine ⟨v1, ?_⟩) | (with_reducible refine ⟨v2, ?_⟩) | (with_reducible refine ⟨v3, ?_⟩) | (with_reducible refine ⟨v4, ?_⟩) | (refine HL [1435] _ _ _ _ ?_; (conv => whnf); try (show TL _ [_, _, _, _] _ _)) | refine br_t (by first | rfl | assumption) ?_ | refine br_f (by assumption) ?_ | refine ⟨by decide, ?_⟩ | refine ⟨by assumption, ?_⟩ | fail)
  refine X5_likely H (D.mX s1) (fun S2 s2 => ?_)
  refine HL [1435] _ _ _ _ ?_
  conv => whnf
  refine HL [1435] _ _ _ _ ?_
  conv => whnf
  refine br_t ((lg_cmp_eq _ _).mpr rfl) ?_
  repeat' (first | (with_reducible refine ⟨v1, ?_⟩) | (with_reducible refine ⟨v2, ?_⟩) | (with_reducible refine ⟨v3, ?_⟩) | (with_reducible refine ⟨v4, ?_⟩) | (refine HL [1435] _ _ _ _ ?_; (conv => whnf); try (show TL _ [_, _, _, _] _ _)) | refine br_t (by first | rfl | assumption) ?_ | refine br_f (by assumption) ?_ | refine ⟨by decide, ?_⟩ | refine ⟨by assumption, ?_⟩ | fail)
  all_goals exact Halt.mk (nx S2 (D.ansX s1 s2))
set_option maxRecDepth 100000 in
theorem LC_mean (H : Rules C T) (HL : RulesL C (some (L, xs)) TL) {i : Nat} (hi : i + 5 ≤ L) (hL : L ≤ 2560) {S : Mem} (R : Rel S) (nx : ∀ S', Rel S' → TL 1435 [some (.ref 99), some (.ref 0), some (.ref 25), some (.int (nI i))] [] S') : TL 1237 [some (.ref 99), some (.ref 0), some (.ref 25), some (.int (nI i))] [] S := by
  obtain ⟨K, n, row, q, lt, l, D⟩ := R
  have v1 : vp_in (nI i + 1) L := by rw [nI_1]; exact vp_in_nI (by omega) (by omega)
  have v2 : vp_in (nI i + 2) L := by rw [show nI i + 2 = nI (i + 2) from nI_add i 2]; exact vp_in_nI (by omega) (by omega)
  have v3 : vp_in (nI i + 3) L := by rw [show nI i + 3 = nI (i + 3) from nI_add i 3]; exact vp_in_nI (by omega) (by omega)
  have v4 : vp_in (nI i + 4) L := by rw [show nI i + 4 = nI (i + 4) from nI_add i 4]; exact vp_in_nI (by omega) (by omega)
  repeat' (first | (with_reducible refine ⟨v1, ?_⟩) | (with_reducible refine ⟨v2, ?_⟩) | (with_reducible refine ⟨v3, ?_⟩) | (with_reducible refine ⟨v4, ?_⟩) | (refine HL [1435] _ _ _ _ ?_; (conv => whnf); try (show TL _ [_, _, _, _] _ _)) | refine br_t (by first | rfl | assumption) ?_ | refine br_f (by assumption) ?_ | refine ⟨by decide, ?_⟩ | refine ⟨by assumption, ?_⟩ | fail)
  refine X4_mean H D.c (fun S1 s1 => ?_)
  repeat' (first | (with_reducible refine ⟨v1, ?_⟩) | (with_reducible refine ⟨v2, ?_⟩) | (with_reducible refine ⟨v3, ?_⟩) | (with_reducible refine ⟨v4, ?_⟩) | (refine HL [1435] _ _ _ _ ?_; (conv => whnf); try (show TL _ [_, _, _, _] _ _)) | refine br_t (by first | rfl | assumption) ?_ | refine br_f (by assumption) ?_ | refine ⟨by decide, ?_⟩ | refine ⟨by assumption, ?_⟩ | fail)
  refine X5_mean H (D.mX s1) D.b (fun S2 s2 => ?_)
  refine HL [1435] _ _ _ _ ?_
  conv => whnf
  refine HL [1435] _ _ _ _ ?_
  conv => whnf
  refine br_t ((lg_cmp_eq _ _).mpr rfl) ?_
  repeat' (first | (with_reducible refine ⟨v1, ?_⟩) | (with_reducible refine ⟨v2, ?_⟩) | (with_reducible refine ⟨v3, ?_⟩) | (with_reducible refine ⟨v4, ?_⟩) | (refine HL [1435] _ _ _ _ ?_; (conv => whnf); try (show TL _ [_, _, _, _] _ _)) | refine br_t (by first | rfl | assumption) ?_ | refine br_f (by assumption) ?_ | refine ⟨by decide, ?_⟩ | refine ⟨by assumption, ?_⟩ | fail)
  all_goals exact Halt.mk (nx S2 (D.ansX s1 s2))
set_option maxRecDepth 100000 in
theorem LC_whatIs (H : Rules C T) (HL : RulesL C (some (L, xs)) TL) {i : Nat} (hi : i + 5 ≤ L) (hL : L ≤ 2560) {S : Mem} (R : Rel S) (nx : ∀ S', Rel S' → TL 1435 [some (.ref 99), some (.ref 0), some (.ref 25), some (.int (nI i))] [] S') : TL 1261 [some (.ref 99), some (.ref 0), some (.ref 25), some (.int (nI i))] [] S := by
  obtain ⟨K, n, row, q, lt, l, D⟩ := R
  have v1 : vp_in (nI i + 1) L := by rw [nI_1]; exact vp_in_nI (by omega) (by omega)
  have v2 : vp_in (nI i + 2) L := by rw [show nI i + 2 = nI (i + 2) from nI_add i 2]; exact vp_in_nI (by omega) (by omega)
  have v3 : vp_in (nI i + 3) L := by rw [show nI i + 3 = nI (i + 3) from nI_add i 3]; exact vp_in_nI (by omega) (by omega)
  have v4 : vp_in (nI i + 4) L := by rw [show nI i + 4 = nI (i + 4) from nI_add i 4]; exact vp_in_nI (by omega) (by omega)
  repeat' (first | (with_reducible refine ⟨v1, ?_⟩) | (with_reducible refine ⟨v2, ?_⟩) | (with_reducible refine ⟨v3, ?_⟩) | (with_reducible refine ⟨v4, ?_⟩) | (refine HL [1435] _ _ _ _ ?_; (conv => whnf); try (show TL _ [_, _, _, _] _ _)) | refine br_t (by first | rfl | assumption) ?_ | refine br_f (by assumption) ?_ | refine ⟨by decide, ?_⟩ | refine ⟨by assumption, ?_⟩ | fail)
  refine X4_whatIs H D.c D.r (fun S1 s1 => ?_)
  repeat' (first | (with_reducible refine ⟨v1, ?_⟩) | (with_reducible refine ⟨v2, ?_⟩) | (with_reducible refine ⟨v3, ?_⟩) | (with_reducible refine ⟨v4, ?_⟩) | (refine HL [1435] _ _ _ _ ?_; (conv => whnf); try (show TL _ [_, _, _, _] _ _)) | refine br_t (by first | rfl | assumption) ?_ | refine br_f (by assumption) ?_ | refine ⟨by decide, ?_⟩ | refine ⟨by assumption, ?_⟩ | fail)
  refine X5_whatIs H (D.mX s1) (D.rX s1) (fun S2 s2 => ?_)
  repeat' (first | (with_reducible refine ⟨v1, ?_⟩) | (with_reducible refine ⟨v2, ?_⟩) | (with_reducible refine ⟨v3, ?_⟩) | (with_reducible refine ⟨v4, ?_⟩) | (refine HL [1435] _ _ _ _ ?_; (conv => whnf); try (show TL _ [_, _, _, _] _ _)) | refine br_t (by first | rfl | assumption) ?_ | refine br_f (by assumption) ?_ | refine ⟨by decide, ?_⟩ | refine ⟨by assumption, ?_⟩ | fail)
  all_goals exact Halt.mk (nx S2 (D.ansX s1 s2))
set_option maxRecDepth 100000 in
theorem LC_row (H : Rules C T) (HL : RulesL C (some (L, xs)) TL) {i : Nat} (hi : i + 5 ≤ L) (hL : L ≤ 2560) {S : Mem} (R : Rel S) (nx : ∀ S', Rel S' → TL 1435 [some (.ref 99), some (.ref 0), some (.ref 25), some (.int (nI i))] [] S') : TL 1294 [some (.ref 99), some (.ref 0), some (.ref 25), some (.int (nI i))] [] S := by
  obtain ⟨K, n, row, q, lt, l, D⟩ := R
  have v1 : vp_in (nI i + 1) L := by rw [nI_1]; exact vp_in_nI (by omega) (by omega)
  have v2 : vp_in (nI i + 2) L := by rw [show nI i + 2 = nI (i + 2) from nI_add i 2]; exact vp_in_nI (by omega) (by omega)
  have v3 : vp_in (nI i + 3) L := by rw [show nI i + 3 = nI (i + 3) from nI_add i 3]; exact vp_in_nI (by omega) (by omega)
  have v4 : vp_in (nI i + 4) L := by rw [show nI i + 4 = nI (i + 4) from nI_add i 4]; exact vp_in_nI (by omega) (by omega)
  repeat' (first | (with_reducible refine ⟨v1, ?_⟩) | (with_reducible refine ⟨v2, ?_⟩) | (with_reducible refine ⟨v3, ?_⟩) | (with_reducible refine ⟨v4, ?_⟩) | (refine HL [1435] _ _ _ _ ?_; (conv => whnf); try (show TL _ [_, _, _, _] _ _)) | refine br_t (by first | rfl | assumption) ?_ | refine br_f (by assumption) ?_ | refine ⟨by decide, ?_⟩ | refine ⟨by assumption, ?_⟩ | fail)
  by_cases h1 : (xs (nI i + 1).toNatClampNeg) < 0
  · refine X4_row H D.r (fun _ S1 s1 => ?_) (fun h => absurd h1 h) (fun h => absurd h1 h)
    repeat' (first | (with_reducible refine ⟨v1, ?_⟩) | (with_reducible refine ⟨v2, ?_⟩) | (with_reducible refine ⟨v3, ?_⟩) | (with_reducible refine ⟨v4, ?_⟩) | (refine HL [1435] _ _ _ _ ?_; (conv => whnf); try (show TL _ [_, _, _, _] _ _)) | refine br_t (by first | rfl | assumption) ?_ | refine br_f (by assumption) ?_ | refine ⟨by decide, ?_⟩ | refine ⟨by assumption, ?_⟩ | fail)
    refine X5_row H (D.rX s1) (fun _ S2 s2 => ?_) (fun h => absurd h1 h) (fun h => absurd h1 h)
    repeat' (first | (with_reducible refine ⟨v1, ?_⟩) | (with_reducible refine ⟨v2, ?_⟩) | (with_reducible refine ⟨v3, ?_⟩) | (with_reducible refine ⟨v4, ?_⟩) | (refine HL [1435] _ _ _ _ ?_; (conv => whnf); try (show TL _ [_, _, _, _] _ _)) | refine br_t (by first | rfl | assumption) ?_ | refine br_f (by assumption) ?_ | refine ⟨by decide, ?_⟩ | refine ⟨by assumption, ?_⟩ | fail)
    all_goals exact Halt.mk (nx S2 (D.ansX s1 s2))
  by_cases h2 : 99 < (xs (nI i + 1).toNatClampNeg) ∨ q = 16
  · refine X4_row H D.r (fun h => absurd h h1) (fun _ _ S1 s1 => ?_) (fun _ h3 h4 => absurd h2 (fun z => z.elim h3 (fun z => by omega)))
    repeat' (first | (with_reducible refine ⟨v1, ?_⟩) | (with_reducible refine ⟨v2, ?_⟩) | (with_reducible refine ⟨v3, ?_⟩) | (with_reducible refine ⟨v4, ?_⟩) | (refine HL [1435] _ _ _ _ ?_; (conv => whnf); try (show TL _ [_, _, _, _] _ _)) | refine br_t (by first | rfl | assumption) ?_ | refine br_f (by assumption) ?_ | refine ⟨by decide, ?_⟩ | refine ⟨by assumption, ?_⟩ | fail)
    refine X5_row H (D.rX s1) (fun h => absurd h h1) (fun _ _ S2 s2 => ?_) (fun _ h3 h4 => absurd h2 (fun z => z.elim h3 (fun z => by omega)))
    repeat' (first | (with_reducible refine ⟨v1, ?_⟩) | (with_reducible refine ⟨v2, ?_⟩) | (with_reducible refine ⟨v3, ?_⟩) | (with_reducible refine ⟨v4, ?_⟩) | (refine HL [1435] _ _ _ _ ?_; (conv => whnf); try (show TL _ [_, _, _, _] _ _)) | refine br_t (by first | rfl | assumption) ?_ | refine br_f (by assumption) ?_ | refine ⟨by decide, ?_⟩ | refine ⟨by assumption, ?_⟩ | fail)
    all_goals exact Halt.mk (nx S2 (D.ansX s1 s2))
  refine X4_row H D.r (fun h => absurd h h1) (fun _ h => absurd h h2) (fun _ _ hq S1 r1 o1 => ?_)
  have e1 : ∀ a j, ¬ scrX a → ¬ exRow a j → S1 a j = S a j := o1
  have rm : XRM S1 row q := D.2.2.2.2.1.of (e1 _ _ (by unfold scrX; omega) (by unfold exRow; omega)) (fun j => e1 _ _ (by unfold scrX; omega) (by unfold exRow; omega))
  repeat' (first | (with_reducible refine ⟨v1, ?_⟩) | (with_reducible refine ⟨v2, ?_⟩) | (with_reducible refine ⟨v3, ?_⟩) | (with_reducible refine ⟨v4, ?_⟩) | (refine HL [1435] _ _ _ _ ?_; (conv => whnf); try (show TL _ [_, _, _, _] _ _)) | refine br_t (by first | rfl | assumption) ?_ | refine br_f (by assumption) ?_ | refine ⟨by decide, ?_⟩ | refine ⟨by assumption, ?_⟩ | fail)
  refine X5_row H rm (fun h => absurd h h1) (fun _ h => absurd h h2) (fun _ _ _ => ?_)
  repeat' (first | (with_reducible refine ⟨v1, ?_⟩) | (with_reducible refine ⟨v2, ?_⟩) | (with_reducible refine ⟨v3, ?_⟩) | (with_reducible refine ⟨v4, ?_⟩) | (refine HL [1435] _ _ _ _ ?_; (conv => whnf); try (show TL _ [_, _, _, _] _ _)) | refine br_t (by first | rfl | assumption) ?_ | refine br_f (by assumption) ?_ | refine ⟨by decide, ?_⟩ | refine ⟨by assumption, ?_⟩ | fail)
  refine Halt.mk (nx _ (D.misc (row' := upd row q (xs (nI i + 1).toNatClampNeg)) (q' := q + 1) (lt' := lt) (l' := l) (fun a j ha => ?_) (r1.cong ?_ (fun j => ?_)) ⟨up_at, by omega, fun j hj => ?_⟩ (D.2.2.2.2.2.1.cong ?_ (fun j => ?_)) ⟨?_, D.2.2.2.2.2.2.1.2⟩ (fun j hj => ?_)))
  · rw [← e1 a j (fun z => ha (Or.inl z)) (by unfold exM at ha; unfold exRow; omega)]
    unfold exM at ha
    unfold up
    rw [if_neg (by omega), if_neg (by omega)]
  · rw [up_k (by omega), up_k (by omega)]
  · rw [up_k (by omega), up_k (by omega)]
  · rw [up_k (by omega)]
    unfold upd
    by_cases z : j = q
    · rw [z, up_at, if_pos rfl]
    · rw [up_j z, if_neg z]
      exact rm.2.2 j hj
  · rw [up_k (by omega), up_k (by omega), e1 _ _ (by unfold scrX; omega) (by unfold exRow; omega)]
  · rw [up_k (by omega), up_k (by omega), e1 _ _ (by unfold scrX; omega) (by unfold exRow; omega)]
  · rw [up_j (by omega), up_k (by omega), e1 _ _ (by unfold scrX; omega) (by unfold exRow; omega)]
    exact D.2.2.2.2.2.2.1.1
  · rw [up_k (by omega), up_k (by omega), e1 _ _ (by unfold scrX; omega) (by unfold exRow; omega)]
    exact D.2.2.2.2.2.2.2.1 j hj
set_option maxRecDepth 100000 in
theorem LC_judge (H : Rules C T) (HL : RulesL C (some (L, xs)) TL) {i : Nat} (hi : i + 5 ≤ L) (hL : L ≤ 2560) {S : Mem} (R : Rel S) (nx : ∀ S', Rel S' → TL 1435 [some (.ref 99), some (.ref 0), some (.ref 25), some (.int (nI i))] [] S') : TL 1317 [some (.ref 99), some (.ref 0), some (.ref 25), some (.int (nI i))] [] S := by
  obtain ⟨K, n, row, q, lt, l, D⟩ := R
  have v1 : vp_in (nI i + 1) L := by rw [nI_1]; exact vp_in_nI (by omega) (by omega)
  have v2 : vp_in (nI i + 2) L := by rw [show nI i + 2 = nI (i + 2) from nI_add i 2]; exact vp_in_nI (by omega) (by omega)
  have v3 : vp_in (nI i + 3) L := by rw [show nI i + 3 = nI (i + 3) from nI_add i 3]; exact vp_in_nI (by omega) (by omega)
  have v4 : vp_in (nI i + 4) L := by rw [show nI i + 4 = nI (i + 4) from nI_add i 4]; exact vp_in_nI (by omega) (by omega)
  repeat' (first | (with_reducible refine ⟨v1, ?_⟩) | (with_reducible refine ⟨v2, ?_⟩) | (with_reducible refine ⟨v3, ?_⟩) | (with_reducible refine ⟨v4, ?_⟩) | (refine HL [1435] _ _ _ _ ?_; (conv => whnf); try (show TL _ [_, _, _, _] _ _)) | refine br_t (by first | rfl | assumption) ?_ | refine br_f (by assumption) ?_ | refine ⟨by decide, ?_⟩ | refine ⟨by assumption, ?_⟩ | fail)
  refine X4_judge H D.c D.r (fun S1 r1 o1 => ?_)
  have e1 : ∀ a j, ¬ scrX a → ¬ exRow a j → S1 a j = S a j := o1
  have rm : XRM S1 row q := D.2.2.2.2.1.of (e1 _ _ (by unfold scrX; omega) (by unfold exRow; omega)) (fun j => e1 _ _ (by unfold scrX; omega) (by unfold exRow; omega))
  repeat' (first | (with_reducible refine ⟨v1, ?_⟩) | (with_reducible refine ⟨v2, ?_⟩) | (with_reducible refine ⟨v3, ?_⟩) | (with_reducible refine ⟨v4, ?_⟩) | (refine HL [1435] _ _ _ _ ?_; (conv => whnf); try (show TL _ [_, _, _, _] _ _)) | refine br_t (by first | rfl | assumption) ?_ | refine br_f (by assumption) ?_ | refine ⟨by decide, ?_⟩ | refine ⟨by assumption, ?_⟩ | fail)
  refine X5_judge H (D.2.1.cong (fun a j h => e1 a j (by unfold scrX; omega) (by unfold exRow; omega))) rm (fun S2 s2 => ?_)
  repeat' (first | (with_reducible refine ⟨v1, ?_⟩) | (with_reducible refine ⟨v2, ?_⟩) | (with_reducible refine ⟨v3, ?_⟩) | (with_reducible refine ⟨v4, ?_⟩) | (refine HL [1435] _ _ _ _ ?_; (conv => whnf); try (show TL _ [_, _, _, _] _ _)) | refine br_t (by first | rfl | assumption) ?_ | refine br_f (by assumption) ?_ | refine ⟨by decide, ?_⟩ | refine ⟨by assumption, ?_⟩ | fail)
  refine Halt.mk (nx _ (D.misc (row' := row) (q' := 0) (lt' := lt) (l' := l) (fun a j ha => ?_) (r1.cong ?_ (fun j => ?_)) ⟨up_at, by omega, fun j hj => ?_⟩ (D.2.2.2.2.2.1.cong ?_ (fun j => ?_)) ⟨?_, D.2.2.2.2.2.2.1.2⟩ (fun j hj => ?_)))
  · rw [← e1 a j (fun z => ha (Or.inl z)) (by unfold exM at ha; unfold exRow; omega), ← s2.at (a := a) (j := j) (fun z => ha (Or.inr (Or.inl z)))]
    unfold exM at ha
    unfold up
    rw [if_neg (by omega)]
  · rw [up_k (by omega), s2.at (by unfold scrM; omega)]
  · rw [up_k (by omega), s2.at (by unfold scrM; omega)]
  · rw [up_k (by omega), s2.at (by unfold scrM; omega)]
    exact rm.2.2 j hj
  · rw [up_k (by omega), s2.at (by unfold scrM; omega), e1 _ _ (by unfold scrX; omega) (by unfold exRow; omega)]
  · rw [up_k (by omega), s2.at (by unfold scrM; omega), e1 _ _ (by unfold scrX; omega) (by unfold exRow; omega)]
  · rw [up_j (by omega), s2.at (by unfold scrM; omega), e1 _ _ (by unfold scrX; omega) (by unfold exRow; omega)]
    exact D.2.2.2.2.2.2.1.1
  · rw [up_k (by omega), s2.at (by unfold scrM; omega), e1 _ _ (by unfold scrX; omega) (by unfold exRow; omega)]
    exact D.2.2.2.2.2.2.2.1 j hj
set_option maxRecDepth 100000 in
theorem LC_clear (H : Rules C T) (HL : RulesL C (some (L, xs)) TL) {i : Nat} (hi : i + 5 ≤ L) (hL : L ≤ 2560) {S : Mem} (R : Rel S) (nx : ∀ S', Rel S' → TL 1435 [some (.ref 99), some (.ref 0), some (.ref 25), some (.int (nI i))] [] S') : TL 1330 [some (.ref 99), some (.ref 0), some (.ref 25), some (.int (nI i))] [] S := by
  obtain ⟨K, n, row, q, lt, l, D⟩ := R
  have v1 : vp_in (nI i + 1) L := by rw [nI_1]; exact vp_in_nI (by omega) (by omega)
  have v2 : vp_in (nI i + 2) L := by rw [show nI i + 2 = nI (i + 2) from nI_add i 2]; exact vp_in_nI (by omega) (by omega)
  have v3 : vp_in (nI i + 3) L := by rw [show nI i + 3 = nI (i + 3) from nI_add i 3]; exact vp_in_nI (by omega) (by omega)
  have v4 : vp_in (nI i + 4) L := by rw [show nI i + 4 = nI (i + 4) from nI_add i 4]; exact vp_in_nI (by omega) (by omega)
  repeat' (first | (with_reducible refine ⟨v1, ?_⟩) | (with_reducible refine ⟨v2, ?_⟩) | (with_reducible refine ⟨v3, ?_⟩) | (with_reducible refine ⟨v4, ?_⟩) | (refine HL [1435] _ _ _ _ ?_; (conv => whnf); try (show TL _ [_, _, _, _] _ _)) | refine br_t (by first | rfl | assumption) ?_ | refine br_f (by assumption) ?_ | refine ⟨by decide, ?_⟩ | refine ⟨by assumption, ?_⟩ | fail)
  refine X4_clear H D.r (fun S1 r1 o1 => ?_)
  have e1 : ∀ a j, ¬ scrX a → ¬ exRow a j → S1 a j = S a j := o1
  have rm : XRM S1 row q := D.2.2.2.2.1.of (e1 _ _ (by unfold scrX; omega) (by unfold exRow; omega)) (fun j => e1 _ _ (by unfold scrX; omega) (by unfold exRow; omega))
  repeat' (first | (with_reducible refine ⟨v1, ?_⟩) | (with_reducible refine ⟨v2, ?_⟩) | (with_reducible refine ⟨v3, ?_⟩) | (with_reducible refine ⟨v4, ?_⟩) | (refine HL [1435] _ _ _ _ ?_; (conv => whnf); try (show TL _ [_, _, _, _] _ _)) | refine br_t (by first | rfl | assumption) ?_ | refine br_f (by assumption) ?_ | refine ⟨by decide, ?_⟩ | refine ⟨by assumption, ?_⟩ | fail)
  refine X5_clear H rm ?_
  have s2 : ScM 0 S1 S1 := ScM.rf
  repeat' (first | (with_reducible refine ⟨v1, ?_⟩) | (with_reducible refine ⟨v2, ?_⟩) | (with_reducible refine ⟨v3, ?_⟩) | (with_reducible refine ⟨v4, ?_⟩) | (refine HL [1435] _ _ _ _ ?_; (conv => whnf); try (show TL _ [_, _, _, _] _ _)) | refine br_t (by first | rfl | assumption) ?_ | refine br_f (by assumption) ?_ | refine ⟨by decide, ?_⟩ | refine ⟨by assumption, ?_⟩ | fail)
  refine Halt.mk (nx _ (D.misc (row' := row) (q' := 0) (lt' := lt) (l' := l) (fun a j ha => ?_) (r1.cong ?_ (fun j => ?_)) ⟨up_at, by omega, fun j hj => ?_⟩ (D.2.2.2.2.2.1.cong ?_ (fun j => ?_)) ⟨?_, D.2.2.2.2.2.2.1.2⟩ (fun j hj => ?_)))
  · rw [← e1 a j (fun z => ha (Or.inl z)) (by unfold exM at ha; unfold exRow; omega), ← s2.at (a := a) (j := j) (fun z => ha (Or.inr (Or.inl z)))]
    unfold exM at ha
    unfold up
    rw [if_neg (by omega)]
  · rw [up_k (by omega), s2.at (by unfold scrM; omega)]
  · rw [up_k (by omega), s2.at (by unfold scrM; omega)]
  · rw [up_k (by omega), s2.at (by unfold scrM; omega)]
    exact rm.2.2 j hj
  · rw [up_k (by omega), s2.at (by unfold scrM; omega), e1 _ _ (by unfold scrX; omega) (by unfold exRow; omega)]
  · rw [up_k (by omega), s2.at (by unfold scrM; omega), e1 _ _ (by unfold scrX; omega) (by unfold exRow; omega)]
  · rw [up_j (by omega), s2.at (by unfold scrM; omega), e1 _ _ (by unfold scrX; omega) (by unfold exRow; omega)]
    exact D.2.2.2.2.2.2.1.1
  · rw [up_k (by omega), s2.at (by unfold scrM; omega), e1 _ _ (by unfold scrX; omega) (by unfold exRow; omega)]
    exact D.2.2.2.2.2.2.2.1 j hj
set_option maxRecDepth 100000 in
theorem LC_lots (H : Rules C T) (HL : RulesL C (some (L, xs)) TL) {i : Nat} (hi : i + 5 ≤ L) (hL : L ≤ 2560) {S : Mem} (R : Rel S) (nx : ∀ S', Rel S' → TL 1435 [some (.ref 99), some (.ref 0), some (.ref 25), some (.int (nI i))] [] S') : TL 1343 [some (.ref 99), some (.ref 0), some (.ref 25), some (.int (nI i))] [] S := by
  obtain ⟨K, n, row, q, lt, l, D⟩ := R
  have v1 : vp_in (nI i + 1) L := by rw [nI_1]; exact vp_in_nI (by omega) (by omega)
  have v2 : vp_in (nI i + 2) L := by rw [show nI i + 2 = nI (i + 2) from nI_add i 2]; exact vp_in_nI (by omega) (by omega)
  have v3 : vp_in (nI i + 3) L := by rw [show nI i + 3 = nI (i + 3) from nI_add i 3]; exact vp_in_nI (by omega) (by omega)
  have v4 : vp_in (nI i + 4) L := by rw [show nI i + 4 = nI (i + 4) from nI_add i 4]; exact vp_in_nI (by omega) (by omega)
  repeat' (first | (with_reducible refine ⟨v1, ?_⟩) | (with_reducible refine ⟨v2, ?_⟩) | (with_reducible refine ⟨v3, ?_⟩) | (with_reducible refine ⟨v4, ?_⟩) | (refine HL [1435] _ _ _ _ ?_; (conv => whnf); try (show TL _ [_, _, _, _] _ _)) | refine br_t (by first | rfl | assumption) ?_ | refine br_f (by assumption) ?_ | refine ⟨by decide, ?_⟩ | refine ⟨by assumption, ?_⟩ | fail)
  refine X4_lots H D.c (fun S1 s1 => ?_)
  repeat' (first | (with_reducible refine ⟨v1, ?_⟩) | (with_reducible refine ⟨v2, ?_⟩) | (with_reducible refine ⟨v3, ?_⟩) | (with_reducible refine ⟨v4, ?_⟩) | (refine HL [1435] _ _ _ _ ?_; (conv => whnf); try (show TL _ [_, _, _, _] _ _)) | refine br_t (by first | rfl | assumption) ?_ | refine br_f (by assumption) ?_ | refine ⟨by decide, ?_⟩ | refine ⟨by assumption, ?_⟩ | fail)
  refine X5_lots H (D.mX s1) (fun S2 s2 => ?_)
  repeat' (first | (with_reducible refine ⟨v1, ?_⟩) | (with_reducible refine ⟨v2, ?_⟩) | (with_reducible refine ⟨v3, ?_⟩) | (with_reducible refine ⟨v4, ?_⟩) | (refine HL [1435] _ _ _ _ ?_; (conv => whnf); try (show TL _ [_, _, _, _] _ _)) | refine br_t (by first | rfl | assumption) ?_ | refine br_f (by assumption) ?_ | refine ⟨by decide, ?_⟩ | refine ⟨by assumption, ?_⟩ | fail)
  all_goals exact Halt.mk (nx S2 (D.ansX s1 s2))
set_option maxRecDepth 100000 in
theorem LC_image (H : Rules C T) (HL : RulesL C (some (L, xs)) TL) {i : Nat} (hi : i + 5 ≤ L) (hL : L ≤ 2560) {S : Mem} (R : Rel S) (nx : ∀ S', Rel S' → TL 1435 [some (.ref 99), some (.ref 0), some (.ref 25), some (.int (nI i))] [] S') : TL 1386 [some (.ref 99), some (.ref 0), some (.ref 25), some (.int (nI i))] [] S := by
  obtain ⟨K, n, row, q, lt, l, D⟩ := R
  have v1 : vp_in (nI i + 1) L := by rw [nI_1]; exact vp_in_nI (by omega) (by omega)
  have v2 : vp_in (nI i + 2) L := by rw [show nI i + 2 = nI (i + 2) from nI_add i 2]; exact vp_in_nI (by omega) (by omega)
  have v3 : vp_in (nI i + 3) L := by rw [show nI i + 3 = nI (i + 3) from nI_add i 3]; exact vp_in_nI (by omega) (by omega)
  have v4 : vp_in (nI i + 4) L := by rw [show nI i + 4 = nI (i + 4) from nI_add i 4]; exact vp_in_nI (by omega) (by omega)
  repeat' (first | (with_reducible refine ⟨v1, ?_⟩) | (with_reducible refine ⟨v2, ?_⟩) | (with_reducible refine ⟨v3, ?_⟩) | (with_reducible refine ⟨v4, ?_⟩) | (refine HL [1435] _ _ _ _ ?_; (conv => whnf); try (show TL _ [_, _, _, _] _ _)) | refine br_t (by first | rfl | assumption) ?_ | refine br_f (by assumption) ?_ | refine ⟨by decide, ?_⟩ | refine ⟨by assumption, ?_⟩ | fail)
  refine X4_image H D.c (fun S1 r13 e3 o1 => ?_)
  have e1 : ∀ a j, ¬ scrX a → ¬ exImg a j → S1 a j = S a j := o1
  have m1 : XM S1 K n := D.2.1.cong (fun a j h => e1 a j (by unfold scrX; omega) (by unfold exImg; omega))
  repeat' (first | (with_reducible refine ⟨v1, ?_⟩) | (with_reducible refine ⟨v2, ?_⟩) | (with_reducible refine ⟨v3, ?_⟩) | (with_reducible refine ⟨v4, ?_⟩) | (refine HL [1435] _ _ _ _ ?_; (conv => whnf); try (show TL _ [_, _, _, _] _ _)) | refine br_t (by first | rfl | assumption) ?_ | refine br_f (by assumption) ?_ | refine ⟨by decide, ?_⟩ | refine ⟨by assumption, ?_⟩ | fail)
  refine X5_image H m1 (fun S2 k0 e18 o2 => ?_)
  repeat' (first | (with_reducible refine ⟨v1, ?_⟩) | (with_reducible refine ⟨v2, ?_⟩) | (with_reducible refine ⟨v3, ?_⟩) | (with_reducible refine ⟨v4, ?_⟩) | (refine HL [1435] _ _ _ _ ?_; (conv => whnf); try (show TL _ [_, _, _, _] _ _)) | refine br_t (by first | rfl | assumption) ?_ | refine br_f (by assumption) ?_ | refine ⟨by decide, ?_⟩ | refine ⟨by assumption, ?_⟩ | fail)
  have e2 : ∀ a j, ¬ scrX a → ¬ exImg a j → ¬ (a = 25 ∧ (j = 18 ∨ j = 19 ∨ j = 20)) → ¬ (a = 38 ∧ j < 39) → S2 a j = S a j := fun a j h1 h2 h3 h4 => by rw [o2 a j h3 h4, e1 a j h1 h2]
  obtain ⟨⟨d1, R1⟩, g, z⟩ := m1
  obtain ⟨c, _, b, r, rm, u, t, tp, rf, im⟩ := D
  refine Halt.mk (nx S2 ⟨K, n, row, q, lt, l, ⟨c.1.cong (fun a j g1 g2 => e2 a j (by unfold scrX; omega) (by unfold exImg; omega) (by omega) (by omega)), c.2⟩, ⟨⟨d1, R1.cong (fun a j hi => o2 a j (by unfold inM at hi; omega) (by unfold inM at hi; omega))⟩, g, z⟩, b, r.cong (e2 _ _ (by unfold scrX; omega) (by unfold exImg; omega) (by omega) (by omega)) (fun j => e2 _ _ (by unfold scrX; omega) (by unfold exImg; omega) (by omega) (by omega)), rm.of (e2 _ _ (by unfold scrX; omega) (by unfold exImg; omega) (by omega) (by omega)) (fun j => e2 _ _ (by unfold scrX; omega) (by unfold exImg; omega) (by omega) (by omega)), u.cong (e2 _ _ (by unfold scrX; omega) (by unfold exImg; omega) (by omega) (by omega)) (fun j => e2 _ _ (by unfold scrX; omega) (by unfold exImg; omega) (by omega) (by omega)), ⟨(e2 _ _ (by unfold scrX; omega) (by unfold exImg; omega) (by omega) (by omega)).trans t.1, t.2⟩, fun j hj => (e2 _ _ (by unfold scrX; omega) (by unfold exImg; omega) (by omega) (by omega)).trans (tp j hj), fun j h1 h6 => ?_, Or.inr ⟨(o2 _ _ (by omega) (by omega)).trans e3, e18, K, n, S1, d1, r13.cong (fun a j g1 g2 => o2 a j (by omega) (by omega)), z, k0, R1, g, b⟩⟩)
  rw [e2 26 j (by unfold scrX; omega) (by unfold exImg; omega) (by omega) (by omega), e2 22 j (by unfold scrX; omega) (by unfold exImg; omega) (by omega) (by omega), rf j h1 h6]
set_option maxRecDepth 100000 in
theorem LC_on (H : Rules C T) (HL : RulesL C (some (L, xs)) TL) {i : Nat} (hi : i + 5 ≤ L) (hL : L ≤ 2560) {S : Mem} (R : Rel S) (nx : ∀ S', Rel S' → TL 1435 [some (.ref 99), some (.ref 0), some (.ref 25), some (.int (nI i))] [] S') : TL 1399 [some (.ref 99), some (.ref 0), some (.ref 25), some (.int (nI i))] [] S := by
  obtain ⟨K, n, row, q, lt, l, D⟩ := R
  have v1 : vp_in (nI i + 1) L := by rw [nI_1]; exact vp_in_nI (by omega) (by omega)
  have v2 : vp_in (nI i + 2) L := by rw [show nI i + 2 = nI (i + 2) from nI_add i 2]; exact vp_in_nI (by omega) (by omega)
  have v3 : vp_in (nI i + 3) L := by rw [show nI i + 3 = nI (i + 3) from nI_add i 3]; exact vp_in_nI (by omega) (by omega)
  have v4 : vp_in (nI i + 4) L := by rw [show nI i + 4 = nI (i + 4) from nI_add i 4]; exact vp_in_nI (by omega) (by omega)
  have D0 := D
  repeat' (first | (with_reducible refine ⟨v1, ?_⟩) | (with_reducible refine ⟨v2, ?_⟩) | (with_reducible refine ⟨v3, ?_⟩) | (with_reducible refine ⟨v4, ?_⟩) | (refine HL [1435] _ _ _ _ ?_; (conv => whnf); try (show TL _ [_, _, _, _] _ _)) | refine br_t (by first | rfl | assumption) ?_ | refine br_f (by assumption) ?_ | refine ⟨by decide, ?_⟩ | refine ⟨by assumption, ?_⟩ | fail)
  rcases D.2.2.2.2.2.2.2.2.2 with ⟨h1, h2⟩ | ⟨h1, h2, Kk, nk, Sk, dk, c1, c2, c3, c4, c5, c6⟩
  · refine X4_on0 H h1 (fun S1 s1 => ?_)
    repeat' (first | (with_reducible refine ⟨v1, ?_⟩) | (with_reducible refine ⟨v2, ?_⟩) | (with_reducible refine ⟨v3, ?_⟩) | (with_reducible refine ⟨v4, ?_⟩) | (refine HL [1435] _ _ _ _ ?_; (conv => whnf); try (show TL _ [_, _, _, _] _ _)) | refine br_t (by first | rfl | assumption) ?_ | refine br_f (by assumption) ?_ | refine ⟨by decide, ?_⟩ | refine ⟨by assumption, ?_⟩ | fail)
    refine X5_on0 H ((s1.hi _ _ (by omega)).trans h2) (fun S2 s2 => ?_)
    repeat' (first | (with_reducible refine ⟨v1, ?_⟩) | (with_reducible refine ⟨v2, ?_⟩) | (with_reducible refine ⟨v3, ?_⟩) | (with_reducible refine ⟨v4, ?_⟩) | (refine HL [1435] _ _ _ _ ?_; (conv => whnf); try (show TL _ [_, _, _, _] _ _)) | refine br_t (by first | rfl | assumption) ?_ | refine br_f (by assumption) ?_ | refine ⟨by decide, ?_⟩ | refine ⟨by assumption, ?_⟩ | fail)
    all_goals exact Halt.mk (nx S2 (D.ansX s1 s2))
  · refine X4_on H c1 c2 (fun h => absurd h (by rw [h1]; decide)) (fun _ S1 r1 o1 => ?_)
    have e1 : ∀ a j, ¬ scrX a → ¬ exNow a j → S1 a j = S a j := o1
    have s1 : ScY 0 S S1 := fun a j g1 g2 => by
      rw [if_neg (fun z => z.2.2 rfl)]
      exact e1 a j g1 (by unfold exNow; omega)
    have h18 : S1 25 18 = 1 := (e1 _ _ (by unfold scrX; omega) (by unfold exNow; omega)).trans h2
    have h21 : S1 25 21 = 0 := by
      obtain ⟨⟨d, Rm⟩, _, z⟩ := D.2.1
      rw [e1 25 21 (by unfold scrX; omega) (by unfold exNow; omega), Rm.st]
      exact z.1
    repeat' (first | (with_reducible refine ⟨v1, ?_⟩) | (with_reducible refine ⟨v2, ?_⟩) | (with_reducible refine ⟨v3, ?_⟩) | (with_reducible refine ⟨v4, ?_⟩) | (refine HL [1435] _ _ _ _ ?_; (conv => whnf); try (show TL _ [_, _, _, _] _ _)) | refine br_t (by first | rfl | assumption) ?_ | refine br_f (by assumption) ?_ | refine ⟨by decide, ?_⟩ | refine ⟨by assumption, ?_⟩ | fail)
    refine X5_on H (fun j hj => (e1 38 _ (by unfold scrX; omega) (by unfold exNow; omega)).trans (c3 j hj)) c4 c5 c2 h21 (fun h => absurd h (by rw [h18]; decide)) (fun _ S2 r2 s2 => ?_)
    repeat' (first | (with_reducible refine ⟨v1, ?_⟩) | (with_reducible refine ⟨v2, ?_⟩) | (with_reducible refine ⟨v3, ?_⟩) | (with_reducible refine ⟨v4, ?_⟩) | (refine HL [1435] _ _ _ _ ?_; (conv => whnf); try (show TL _ [_, _, _, _] _ _)) | refine br_t (by first | rfl | assumption) ?_ | refine br_f (by assumption) ?_ | refine ⟨by decide, ?_⟩ | refine ⟨by assumption, ?_⟩ | fail)
    all_goals exact Halt.mk (nx S2 (D.ansY r1 s1 r2 s2 c5 c6 c2))
set_option maxRecDepth 100000 in
theorem LC_count (H : Rules C T) (HL : RulesL C (some (L, xs)) TL) {i : Nat} (hi : i + 5 ≤ L) (hL : L ≤ 2560) {S : Mem} (R : Rel S) (nx : ∀ S', Rel S' → TL 1435 [some (.ref 99), some (.ref 0), some (.ref 25), some (.int (nI i))] [] S') : TL 1412 [some (.ref 99), some (.ref 0), some (.ref 25), some (.int (nI i))] [] S := by
  obtain ⟨K, n, row, q, lt, l, D⟩ := R
  have v1 : vp_in (nI i + 1) L := by rw [nI_1]; exact vp_in_nI (by omega) (by omega)
  have v2 : vp_in (nI i + 2) L := by rw [show nI i + 2 = nI (i + 2) from nI_add i 2]; exact vp_in_nI (by omega) (by omega)
  have v3 : vp_in (nI i + 3) L := by rw [show nI i + 3 = nI (i + 3) from nI_add i 3]; exact vp_in_nI (by omega) (by omega)
  have v4 : vp_in (nI i + 4) L := by rw [show nI i + 4 = nI (i + 4) from nI_add i 4]; exact vp_in_nI (by omega) (by omega)
  repeat' (first | (with_reducible refine ⟨v1, ?_⟩) | (with_reducible refine ⟨v2, ?_⟩) | (with_reducible refine ⟨v3, ?_⟩) | (with_reducible refine ⟨v4, ?_⟩) | (refine HL [1435] _ _ _ _ ?_; (conv => whnf); try (show TL _ [_, _, _, _] _ _)) | refine br_t (by first | rfl | assumption) ?_ | refine br_f (by assumption) ?_ | refine ⟨by decide, ?_⟩ | refine ⟨by assumption, ?_⟩ | fail)
  refine X4_count H D.c D.r D.2.2.2.2.2.1.1 ?_
  repeat' (first | (with_reducible refine ⟨v1, ?_⟩) | (with_reducible refine ⟨v2, ?_⟩) | (with_reducible refine ⟨v3, ?_⟩) | (with_reducible refine ⟨v4, ?_⟩) | (refine HL [1435] _ _ _ _ ?_; (conv => whnf); try (show TL _ [_, _, _, _] _ _)) | refine br_t (by first | rfl | assumption) ?_ | refine br_f (by assumption) ?_ | refine ⟨by decide, ?_⟩ | refine ⟨by assumption, ?_⟩ | fail)
  refine X5_count H (Sc := S) D.2.1 D.2.2.2.2.1 D.2.2.2.2.2.2.1 D.2.2.2.2.2.2.2.2.1 ?_
  repeat' (first | (with_reducible refine ⟨v1, ?_⟩) | (with_reducible refine ⟨v2, ?_⟩) | (with_reducible refine ⟨v3, ?_⟩) | (with_reducible refine ⟨v4, ?_⟩) | (refine HL [1435] _ _ _ _ ?_; (conv => whnf); try (show TL _ [_, _, _, _] _ _)) | refine br_t (by first | rfl | assumption) ?_ | refine br_f (by assumption) ?_ | refine ⟨by decide, ?_⟩ | refine ⟨by assumption, ?_⟩ | fail)
  all_goals exact Halt.mk (nx S ⟨K, n, row, q, lt, l, D⟩)
end LAW2
