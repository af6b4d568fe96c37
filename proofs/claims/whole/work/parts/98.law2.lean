/-! THE LAW, call by call -/
section LAW2
variable {C : Cst} {T : Nat → Pst → Nat → Lcs → List Value → Mem → Prop} {TL : Nat → Lcs → List Value → Mem → Prop} {L : Nat} {xs : Nat → Int32}
set_option maxRecDepth 100000 in
set_option profiler true in
theorem LC_room (H : Rules C T) (HL : RulesL C (some (L, xs)) TL) {i : Nat} (hi : i + 5 ≤ L) (hL : L ≤ 2560) {S : Mem} (R : Rel S) (nx : ∀ S', Rel S' → TL 1435 [some (.ref 99), some (.ref 0), some (.ref 25), some (.int (nI i))] [] S') : TL 252 [some (.ref 99), some (.ref 0), some (.ref 25), some (.int (nI i))] [] S := by
  obtain ⟨K, n, row, q, lt, l, D⟩ := R
  have v1 : vp_in (nI i + 1) L := by rw [nI_1]; exact vp_in_nI (by omega) (by omega)
  have v2 : vp_in (nI i + 2) L := by rw [show nI i + 2 = nI (i + 2) from nI_add i 2]; exact vp_in_nI (by omega) (by omega)
  have v3 : vp_in (nI i + 3) L := by rw [show nI i + 3 = nI (i + 3) from nI_add i 3]; exact vp_in_nI (by omega) (by omega)
  have v4 : vp_in (nI i + 4) L := by rw [show nI i + 4 = nI (i + 4) from nI_add i 4]; exact vp_in_nI (by omega) (by omega)
  repeat' (first | (refine HL [1435] _ _ _ _ ?_; (conv => whnf); try (show TL _ [_, _, _, _] _ _)) | refine br_t (by first | rfl | assumption) ?_ | refine br_f (by assumption) ?_ | refine ⟨by decide, ?_⟩ | refine ⟨by assumption, ?_⟩ | fail)
  refine X4_room H D.c (fun S1 s1 => ?_)
  repeat' (first | (refine HL [1435] _ _ _ _ ?_; (conv => whnf); try (show TL _ [_, _, _, _] _ _)) | refine br_t (by first | rfl | assumption) ?_ | refine br_f (by assumption) ?_ | refine ⟨by decide, ?_⟩ | refine ⟨by assumption, ?_⟩ | fail)
  refine X5_room H (D.mX s1) (fun S2 s2 => ?_)
  repeat' (first | (refine HL [1435] _ _ _ _ ?_; (conv => whnf); try (show TL _ [_, _, _, _] _ _)) | refine br_t (by first | rfl | assumption) ?_ | refine br_f (by assumption) ?_ | refine ⟨by decide, ?_⟩ | refine ⟨by assumption, ?_⟩ | fail)
  all_goals exact Halt.mk (nx S2 (D.ansX s1 s2))
end LAW2
