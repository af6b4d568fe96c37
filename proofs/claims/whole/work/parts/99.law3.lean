section LAW3
variable {C : Cst} {T : Nat → Pst → Nat → Lcs → List Value → Mem → Prop} {TL : Nat → Lcs → List Value → Mem → Prop} {L : Nat} {xs : Nat → Int32}
set_option maxRecDepth 100000 in
theorem gt_end {i : Nat} (hL : L ≤ 2560) (hi : i ≤ 2560) (h : ¬ i + 5 ≤ L) : Int32.ofNat L - 5 < nI i := by
  have z5 : (5 : Int32).toInt = 5 := by decide
  have e := nIt (n := L) (by omega)
  have e2 := nIt (n := i) (by omega)
  have e : (Int32.ofNat L).toInt = L := e
  rw [ltT, subT (by omega) (by omega)]
  omega
set_option maxRecDepth 100000 in
theorem gt_go {i : Nat} (hL : L ≤ 2560) (hi : i ≤ 2560) (h : i + 5 ≤ L) : ¬ Int32.ofNat L - 5 < nI i := by
  have z5 : (5 : Int32).toInt = 5 := by decide
  have e := nIt (n := L) (by omega)
  have e2 := nIt (n := i) (by omega)
  have e : (Int32.ofNat L).toInt = L := e
  rw [ltT, subT (by omega) (by omega)]
  omega
set_option maxRecDepth 100000 in
theorem law_end (HL : RulesL C (some (L, xs)) TL) {i : Nat} (h : Int32.ofNat L - 5 < nI i) {S : Mem} : TL 18 [some (.ref 99), some (.ref 0), some (.ref 25), some (.int (nI i))] [] S := by
  repeat' (first | (refine HL [2000] _ _ _ _ ?_; (conv => whnf); try (show TL _ [_, _, _, _] _ _)) | refine br_t (by first | rfl | assumption) ?_ | refine br_f (by assumption) ?_ | refine ⟨by decide, ?_⟩ | refine ⟨by assumption, ?_⟩ | fail)
  all_goals rfl
set_option maxRecDepth 100000 in
theorem law_loop (H : Rules C T) (HL : RulesL C (some (L, xs)) TL) (hL : L ≤ 2560) : ∀ (k i : Nat) (S : Mem), L + 5 ≤ i + k → i ≤ 2560 → Rel S → TL 18 [some (.ref 99), some (.ref 0), some (.ref 25), some (.int (nI i))] [] S := by
  intro k
  induction k with
  | zero =>
    intro i S hk hi R
    exact law_end HL (gt_end hL hi (by omega))
  | succ k ih =>
    intro i S hk hi R
    by_cases hg : i + 5 ≤ L
    · have hgt := gt_go hL hi hg
      have v0 : vp_in (nI i) L := vp_in_nI (by omega) (by omega)
      have nx : ∀ S', Rel S' → TL 1435 [some (.ref 99), some (.ref 0), some (.ref 25), some (.int (nI i))] [] S' := fun S' R' => by
        repeat' (first | (refine HL [18] _ _ _ _ ?_; (conv => whnf); try (show TL _ [_, _, _, _] _ _)) | refine br_t (by first | rfl | assumption) ?_ | refine br_f (by assumption) ?_ | refine ⟨by decide, ?_⟩ | refine ⟨by assumption, ?_⟩ | fail)
        refine Halt.mk ?_
        rw [show nI i + 5 = nI (i + 5) from nI_add i 5]
        exact ih (i + 5) S' (by omega) (by omega) R'
      repeat' (first | (refine HL [1435] _ _ _ _ ?_; (conv => whnf); try (show TL _ [_, _, _, _] _ _)) | refine br_t (by first | rfl | assumption) ?_ | refine br_f (by assumption) ?_ | refine ⟨by decide, ?_⟩ | refine ⟨by assumption, ?_⟩ | fail)
      refine br_c (fun _ => LC_letter H HL hg hL R nx) (fun _ => ?_)
      conv => whnf
      refine br_c (fun _ => LC_corridor H HL hg hL R nx) (fun _ => ?_)
      conv => whnf
      refine br_c (fun _ => LC_room H HL hg hL R nx) (fun _ => ?_)
      conv => whnf
      refine br_c (fun _ => LC_maid H HL hg hL R nx) (fun _ => ?_)
      conv => whnf
      refine br_c (fun _ => LC_card H HL hg hL R nx) (fun _ => ?_)
      conv => whnf
      refine br_c (fun _ => LC_undo H HL hg hL R nx) (fun _ => ?_)
      conv => whnf
      refine br_c (fun _ => LC_turn H HL hg hL R nx) (fun _ => ?_)
      conv => whnf
      refine br_c (fun _ => LC_places H HL hg hL R nx) (fun _ => ?_)
      conv => whnf
      refine br_c (fun _ => LC_stays H HL hg hL R nx) (fun _ => ?_)
      conv => whnf
      refine br_c (fun _ => LC_visits H HL hg hL R nx) (fun _ => ?_)
      conv => whnf
      refine br_c (fun _ => LC_both H HL hg hL R nx) (fun _ => ?_)
      conv => whnf
      refine br_c (fun _ => LC_down H HL hg hL R nx) (fun _ => ?_)
      conv => whnf
      refine br_c (fun _ => LC_out H HL hg hL R nx) (fun _ => ?_)
      conv => whnf
      refine br_c (fun _ => LC_nextOut H HL hg hL R nx) (fun _ => ?_)
      conv => whnf
      refine br_c (fun _ => LC_howLong H HL hg hL R nx) (fun _ => ?_)
      conv => whnf
      refine br_c (fun _ => LC_bothLong H HL hg hL R nx) (fun _ => ?_)
      conv => whnf
      refine br_c (fun _ => LC_round H HL hg hL R nx) (fun _ => ?_)
      conv => whnf
      refine br_c (fun _ => LC_swap H HL hg hL R nx) (fun _ => ?_)
      conv => whnf
      refine br_c (fun _ => LC_nearest H HL hg hL R nx) (fun _ => ?_)
      conv => whnf
      refine br_c (fun _ => LC_order H HL hg hL R nx) (fun _ => ?_)
      conv => whnf
      refine br_c (fun _ => LC_share H HL hg hL R nx) (fun _ => ?_)
      conv => whnf
      refine br_c (fun _ => LC_together H HL hg hL R nx) (fun _ => ?_)
      conv => whnf
      refine br_c (fun _ => LC_leastLoad H HL hg hL R nx) (fun _ => ?_)
      conv => whnf
      refine br_c (fun _ => LC_saves H HL hg hL R nx) (fun _ => ?_)
      conv => whnf
      refine br_c (fun _ => LC_waitFor H HL hg hL R nx) (fun _ => ?_)
      conv => whnf
      refine br_c (fun _ => LC_first H HL hg hL R nx) (fun _ => ?_)
      conv => whnf
      refine br_c (fun _ => LC_cardBest H HL hg hL R nx) (fun _ => ?_)
      conv => whnf
      refine br_c (fun _ => LC_tips H HL hg hL R nx) (fun _ => ?_)
      conv => whnf
      refine br_c (fun _ => LC_dearest H HL hg hL R nx) (fun _ => ?_)
      conv => whnf
      refine br_c (fun _ => LC_overlap H HL hg hL R nx) (fun _ => ?_)
      conv => whnf
      refine br_c (fun _ => LC_two H HL hg hL R nx) (fun _ => ?_)
      conv => whnf
      refine br_c (fun _ => LC_inspected H HL hg hL R nx) (fun _ => ?_)
      conv => whnf
      refine br_c (fun _ => LC_likely H HL hg hL R nx) (fun _ => ?_)
      conv => whnf
      refine br_c (fun _ => LC_mean H HL hg hL R nx) (fun _ => ?_)
      conv => whnf
      refine br_c (fun _ => LC_whatIs H HL hg hL R nx) (fun _ => ?_)
      conv => whnf
      refine br_c (fun _ => LC_row H HL hg hL R nx) (fun _ => ?_)
      conv => whnf
      refine br_c (fun _ => LC_judge H HL hg hL R nx) (fun _ => ?_)
      conv => whnf
      refine br_c (fun _ => LC_clear H HL hg hL R nx) (fun _ => ?_)
      conv => whnf
      refine br_c (fun _ => LC_lots H HL hg hL R nx) (fun _ => ?_)
      conv => whnf
      refine br_c (fun _ => LC_image H HL hg hL R nx) (fun _ => ?_)
      conv => whnf
      refine br_c (fun _ => LC_on H HL hg hL R nx) (fun _ => ?_)
      conv => whnf
      refine br_c (fun _ => LC_count H HL hg hL R nx) (fun _ => ?_)
      conv => whnf
      exact Halt.mk (nx S R)
    · exact law_end HL (gt_end hL hi hg)
end LAW3
/-! the start: the world as the constructors leave it -/
def lo6 : Nat → Int32 := upd (upd (fun _ => 0) 0 6) 1 6
def S00 : Mem := fun k => cond (Nat.beq k 5 || Nat.beq k 11 || Nat.beq k 17 || Nat.beq k 32) lo6 (fun _ => 0)
def K00 : Mem := fun o j => S00 (1 + o) j
set_option maxRecDepth 100000 in
theorem rel_0 : Rel S00 := by
  have g : Gd K00 0 := ⟨rfl, by omega, ⟨0, by decide, rfl⟩, ⟨0, by decide, rfl⟩, ⟨0, by decide, rfl⟩, ⟨0, by decide, rfl⟩⟩
  have z : KZ K00 := ⟨rfl, rfl⟩
  refine ⟨K00, 0, fun _ => 0, 0, fun _ => 0, 0, ⟨fun o j _ => rfl, rfl, by omega, z⟩, ⟨⟨0, fun a j hi => ?_⟩, g, z⟩, ⟨fun r _ => ?_, fun m _ => ?_⟩, ⟨by omega, rfl, fun j _ => rfl⟩, ⟨rfl, by omega, fun j _ => rfl⟩, ⟨⟨by omega, rfl⟩, fun j h => absurd h (by omega)⟩, ⟨rfl, by omega⟩, fun j h => absurd h (by omega), fun j _ _ => rfl, Or.inl ⟨rfl, rfl⟩⟩
  · unfold inM at hi
    rcases hi with ⟨rfl, hi⟩ | ⟨rfl | rfl | rfl | rfl, hb⟩ | ⟨hb, hj⟩
    · rcases hi with rfl | rfl | rfl
      · rfl
      · rfl
      · decide
    · rfl
    · rfl
    · exact (bt0 j hb).symm
    · exact (bt0 j hb).symm
    · rcases hb with rfl | rfl | rfl <;> rfl
  · show isT 9 0
    unfold isT
    decide
  · show isT 999 0
    unfold isT
    decide
