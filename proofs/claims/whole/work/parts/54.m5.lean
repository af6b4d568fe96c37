section M5
variable {C : Cst} {T : Nat → Pst → Nat → Lcs → List Value → Mem → Prop}
set_option maxRecDepth 100000 in
theorem bt_00 {x : Int32} {r : Nat} (h : bt x r = 0) : ¬ bt x r = 1 := by rw [h]; decide
set_option maxRecDepth 100000 in
theorem X5_atDoor (H : Rules C T) {S K : Mem} {d : Int32} (R : RepM S K d) {m r : Nat} (hm : m < 2) (hr : r < 8) {w : Int32} {Q : Pst} (h1 : ∀ S', RepM S' (knockK K m r w).2 d → FrM S S' → Q (some (.int (knockK K m r w).1)) S') : C mX5_atDoor [.ref 25, .int (nI m), .int (nI r), .int w] S Q := by
  have e29 : S 29 (nI r).toNatClampNeg = bt (K 0 1) r := by rw [nIc (by omega)]; exact R.de hr
  have e30 : S 30 (nI r).toNatClampNeg = bt (K 0 2) r := by rw [nIc (by omega)]; exact R.cd hr
  have cm : (nI m).toNatClampNeg = m := nIc (by omega)
  have cr : (nI r).toNatClampNeg = r := nIc (by omega)
  have i33 : inM 33 m := by unfold inM; omega
  have i32 : inM 32 m := by unfold inM; omega
  have i29 : inM 29 r := by unfold inM; omega
  have i22 : inM 25 22 := by unfold inM; omega
  have pass : ∀ {S K : Mem} (x : Int32), RepM S K d → RepM (up S 33 (nI m).toNatClampNeg (S 33 (nI m).toNatClampNeg + x)) (passK K m x) d ∧ FrM S (up S 33 (nI m).toNatClampNeg (S 33 (nI m).toNatClampNeg + x)) := fun {S K} x R => by
    rw [cm, R.ck hm]
    exact ⟨R.put3 (o := 5) (by omega) (by omega), FrM.put i33⟩
  have load : ∀ {S K : Mem} (x : Int32), RepM S K d → RepM (up S 32 (nI m).toNatClampNeg x) (up K 4 m x) d ∧ FrM S (up S 32 (nI m).toNatClampNeg x) := fun {S K} x R => by
    rw [cm]
    exact ⟨R.put3 (o := 4) (by omega) (by omega), FrM.put i32⟩
  have clean : ∀ {S K : Mem}, RepM S K d → FrM S S → bt (K 0 1) r = 0 → (∀ S', RepM S' (cleanK K m r w) d → FrM S S' → Q (some (.int 3)) S') → T mX5_atDoor Q 115 [some (.ref 25), some (.int (nI m)), some (.int (nI r)), some (.int w)] [] S := fun {S K} R _ hb h1 => by
    skip
    repeat' (first | (refine Rules.st H okX5_atDoor [] ?_; conv => whnf) | refine br_t (by first | decide | assumption) ?_ | refine br_f (by first | decide | assumption) ?_ | refine br_c (fun _ => ?_) (fun _ => ?_) | refine ⟨by decide, ?_⟩ | refine ⟨by first | assumption | (unfold vp_in; decide) | ((with_reducible (refine vp_in_nI ?_ ?_)) <;> omega), ?_⟩ | fail)
    obtain ⟨R1, F1⟩ := pass w R
    generalize up S 33 _ _ = S1 at R1 F1 ⊢
    refine X5_linen H R1 hr ?_
    have e32 : S1 32 (nI m).toNatClampNeg = passK K m w 4 m := by rw [cm]; exact R1.ld hm
    rw [e32]
    repeat' (first | (refine Rules.st H okX5_atDoor [] ?_; conv => whnf) | refine br_t (by first | decide | assumption) ?_ | refine br_f (by first | decide | assumption) ?_ | refine br_c (fun _ => ?_) (fun _ => ?_) | refine ⟨by decide, ?_⟩ | refine ⟨by first | assumption | (unfold vp_in; decide) | ((with_reducible (refine vp_in_nI ?_ ?_)) <;> omega), ?_⟩ | fail)
    obtain ⟨R2, F2⟩ := load (passK K m w 4 m - linK (passK K m w) r) R1
    generalize up S1 32 _ _ = S2 at R2 F2 ⊢
    rw [cr]
    exact h1 _ (R2.putF (f := 1) (Or.inl rfl) hr (by
      rw [show up (passK K m w) 4 m (passK K m w 4 m - linK (passK K m w) r) 0 1 = K 0 1 from rfl, hb]; decide)) ((F1.tr F2).tr (FrM.put i29))
  unfold knockK at h1
  refine Rules.go H (by decide) (Nat.le_of_ble_eq_true rfl) ?_
  repeat' (first | (refine Rules.st H okX5_atDoor [115] ?_; conv => whnf) | refine br_t (by first | decide | assumption) ?_ | refine br_f (by first | decide | assumption) ?_ | refine br_c (fun _ => ?_) (fun _ => ?_) | refine ⟨by decide, ?_⟩ | refine ⟨by first | assumption | (unfold vp_in; decide) | ((with_reducible (refine vp_in_nI ?_ ?_)) <;> omega), ?_⟩ | fail)
  · rw [if_neg (fun z => by
      have g : S 29 (nI r).toNatClampNeg = 1 := by assumption
      rw [e29, z.1] at g
      exact absurd g (by decide))] at h1
    exact h1 S R FrM.rf
  · rw [if_neg (fun z => by
      have g : S 30 (nI r).toNatClampNeg = 1 := by assumption
      rw [e30, z.2] at g
      exact absurd g (by decide))] at h1
    exact h1 S R FrM.rf
  · have g1 : bt (K 0 1) r = 0 := bt_n1 (by rw [← e29]; assumption)
    have g2 : bt (K 0 2) r = 0 := bt_n1 (by rw [← e30]; assumption)
    rw [if_pos ⟨g1, g2⟩] at h1
    dsimp only at h1
    obtain ⟨R1, F1⟩ := pass 1 R
    generalize up S 33 _ _ = S1 at R1 F1 ⊢
    have e33 : S1 33 (nI m).toNatClampNeg = passK K m 1 5 m := by rw [cm]; exact R1.ck hm
    have e32 : S1 32 (nI m).toNatClampNeg = passK K m 1 4 m := by rw [cm]; exact R1.ld hm
    rw [e33]
    refine X5_isOut H R1 hr (fun g3 => ?_) (fun g3 => ?_)
    · rw [if_pos g3] at h1
      repeat' (first | (refine Rules.st H okX5_atDoor [115] ?_; conv => whnf) | refine br_t (by first | decide | assumption) ?_ | refine br_f (by first | decide | assumption) ?_ | refine br_c (fun _ => ?_) (fun _ => ?_) | refine ⟨by decide, ?_⟩ | refine ⟨by first | assumption | (unfold vp_in; decide) | ((with_reducible (refine vp_in_nI ?_ ?_)) <;> omega), ?_⟩ | fail)
      refine X5_linen H R1 hr ?_
      rw [e32]
      conv => whnf
      (refine Rules.st H okX5_atDoor [115] ?_; conv => whnf)
      refine br_c (fun g4 => ?_) (fun g4 => ?_)
      · rw [if_neg (Int32.not_lt.mpr g4)] at h1
        refine Halt.mk ?_
        exact clean R1 FrM.rf g1 (fun S' R' F' => h1 S' R' (F1.tr F'))
      · rw [if_pos (Int32.not_le.mp g4)] at h1
        repeat' (first | (refine Rules.st H okX5_atDoor [115] ?_; conv => whnf) | refine br_t (by first | decide | assumption) ?_ | refine br_f (by first | decide | assumption) ?_ | refine br_c (fun _ => ?_) (fun _ => ?_) | refine ⟨by decide, ?_⟩ | refine ⟨by first | assumption | (unfold vp_in; decide) | ((with_reducible (refine vp_in_nI ?_ ?_)) <;> omega), ?_⟩ | fail)
        have e31 : S1 31 (nI m).toNatClampNeg = passK K m 1 3 m := by rw [cm]; exact R1.at hm
        rw [e31]
        obtain ⟨R2, F2⟩ := pass (2 * passK K m 1 3 m + 4) R1
        generalize up S1 33 _ _ = S2 at R2 F2 ⊢
        obtain ⟨R3, F3⟩ := load 6 R2
        generalize up S2 32 _ _ = S3 at R3 F3 ⊢
        have R4 := R3.putD
        have F4 : FrM S3 (up S3 25 22 (S3 25 22 + 1)) := FrM.put i22
        generalize up S3 25 22 _ = S4 at R4 F4 ⊢
        have R4 : RepM S4 (fetchK (passK K m 1) m) d := R4
        have e33 : S4 33 (nI m).toNatClampNeg = fetchK (passK K m 1) m 5 m := by rw [cm]; exact R4.ck hm
        rw [e33]
        have F := ((F1.tr F2).tr F3).tr F4
        refine X5_isOut H R4 hr (fun g5 => ?_) (fun g5 => ?_)
        · rw [if_pos g5] at h1
          repeat' (first | (refine Rules.st H okX5_atDoor [115] ?_; conv => whnf) | refine br_t (by first | decide | assumption) ?_ | refine br_f (by first | decide | assumption) ?_ | refine br_c (fun _ => ?_) (fun _ => ?_) | refine ⟨by decide, ?_⟩ | refine ⟨by first | assumption | (unfold vp_in; decide) | ((with_reducible (refine vp_in_nI ?_ ?_)) <;> omega), ?_⟩ | fail)
          refine Halt.mk ?_
          exact clean R4 FrM.rf g1 (fun S' R' F' => h1 S' R' (F.tr F'))
        · rw [if_neg (by rw [g5]; decide)] at h1
          repeat' (first | (refine Rules.st H okX5_atDoor [115] ?_; conv => whnf) | refine br_t (by first | decide | assumption) ?_ | refine br_f (by first | decide | assumption) ?_ | refine br_c (fun _ => ?_) (fun _ => ?_) | refine ⟨by decide, ?_⟩ | refine ⟨by first | assumption | (unfold vp_in; decide) | ((with_reducible (refine vp_in_nI ?_ ?_)) <;> omega), ?_⟩ | fail)
          exact h1 S4 R4 F
    · rw [if_neg (by rw [g3]; decide)] at h1
      repeat' (first | (refine Rules.st H okX5_atDoor [115] ?_; conv => whnf) | refine br_t (by first | decide | assumption) ?_ | refine br_f (by first | decide | assumption) ?_ | refine br_c (fun _ => ?_) (fun _ => ?_) | refine ⟨by decide, ?_⟩ | refine ⟨by first | assumption | (unfold vp_in; decide) | ((with_reducible (refine vp_in_nI ?_ ?_)) <;> omega), ?_⟩ | fail)
      exact h1 S1 R1 F1
set_option maxRecDepth 100000 in
theorem X5_visit (H : Rules C T) {S K : Mem} {d : Int32} (R : RepM S K d) {m r n : Nat} (g : Gd K n) (hm : m < 2) (hr : r < n) {Q : Pst} (h1 : ∀ S', RepM S' (visitK K m r).2 d → FrM S S' → Q (some (.int (visitK K m r).1)) S') : C mX5_visit [.ref 25, .int (nI m), .int (nI r)] S Q := by
  have h8 := g.2.1
  refine Rules.go H (by decide) (Nat.le_of_ble_eq_true rfl) ?_
  repeat' (first | (refine Rules.st H okX5_visit [] ?_; conv => whnf) | refine br_t (by first | decide | assumption) ?_ | refine br_f (by first | decide | assumption) ?_ | refine br_c (fun _ => ?_) (fun _ => ?_) | refine ⟨by decide, ?_⟩ | refine ⟨by first | assumption | (unfold vp_in; decide) | ((with_reducible (refine vp_in_nI ?_ ?_)) <;> omega), ?_⟩ | fail)
  refine X5_stepsTo H R hm (by omega) (g.pl hm) (fun S1 R1 F1 => ?_)
  repeat' (first | (refine Rules.st H okX5_visit [] ?_; conv => whnf) | refine br_t (by first | decide | assumption) ?_ | refine br_f (by first | decide | assumption) ?_ | refine br_c (fun _ => ?_) (fun _ => ?_) | refine ⟨by decide, ?_⟩ | refine ⟨by first | assumption | (unfold vp_in; decide) | ((with_reducible (refine vp_in_nI ?_ ?_)) <;> omega), ?_⟩ | fail)
  refine X5_work H R1 (by omega) ?_
  repeat' (first | (refine Rules.st H okX5_visit [] ?_; conv => whnf) | refine br_t (by first | decide | assumption) ?_ | refine br_f (by first | decide | assumption) ?_ | refine br_c (fun _ => ?_) (fun _ => ?_) | refine ⟨by decide, ?_⟩ | refine ⟨by first | assumption | (unfold vp_in; decide) | ((with_reducible (refine vp_in_nI ?_ ?_)) <;> omega), ?_⟩ | fail)
  refine X5_atDoor H R1 hm (by omega) (fun S2 R2 F2 => ?_)
  repeat' (first | (refine Rules.st H okX5_visit [] ?_; conv => whnf) | refine br_t (by first | decide | assumption) ?_ | refine br_f (by first | decide | assumption) ?_ | refine br_c (fun _ => ?_) (fun _ => ?_) | refine ⟨by decide, ?_⟩ | refine ⟨by first | assumption | (unfold vp_in; decide) | ((with_reducible (refine vp_in_nI ?_ ?_)) <;> omega), ?_⟩ | fail)
  exact h1 S2 R2 (F1.tr F2)
set_option maxRecDepth 100000 in
theorem X5_visitBoth (H : Rules C T) {S K : Mem} {d : Int32} (R : RepM S K d) {r n : Nat} (g : Gd K n) (hr : r < n) {Q : Pst} (h1 : ∀ S', RepM S' (bothK K r).2 d → FrM S S' → Q (some (.int (bothK K r).1)) S') : C mX5_visitBoth [.ref 25, .int (nI r)] S Q := by
  have h8 := g.2.1
  have i330 : inM 33 0 := by unfold inM; omega
  have i331 : inM 33 1 := by unfold inM; omega
  refine Rules.go H (by decide) (Nat.le_of_ble_eq_true rfl) ?_
  repeat' (first | (refine Rules.st H okX5_visitBoth [] ?_; conv => whnf) | refine br_t (by first | decide | assumption) ?_ | refine br_f (by first | decide | assumption) ?_ | refine br_c (fun _ => ?_) (fun _ => ?_) | refine ⟨by decide, ?_⟩ | refine ⟨by first | assumption | (unfold vp_in; decide) | ((with_reducible (refine vp_in_nI ?_ ?_)) <;> omega), ?_⟩ | fail)
  refine X5_stepsTo H R (m := 0) (by omega) (by omega) (g.pl (by omega)) (fun S1 R1 F1 => ?_)
  repeat' (first | (refine Rules.st H okX5_visitBoth [] ?_; conv => whnf) | refine br_t (by first | decide | assumption) ?_ | refine br_f (by first | decide | assumption) ?_ | refine br_c (fun _ => ?_) (fun _ => ?_) | refine ⟨by decide, ?_⟩ | refine ⟨by first | assumption | (unfold vp_in; decide) | ((with_reducible (refine vp_in_nI ?_ ?_)) <;> omega), ?_⟩ | fail)
  refine X5_stepsTo H R1 (m := 1) (by omega) (by omega) ((g.walk (by omega)).pl (by omega)) (fun S2 R2 F2 => ?_)
  repeat' (first | (refine Rules.st H okX5_visitBoth [] ?_; conv => whnf) | refine br_t (by first | decide | assumption) ?_ | refine br_f (by first | decide | assumption) ?_ | refine br_c (fun _ => ?_) (fun _ => ?_) | refine ⟨by decide, ?_⟩ | refine ⟨by first | assumption | (unfold vp_in; decide) | ((with_reducible (refine vp_in_nI ?_ ?_)) <;> omega), ?_⟩ | fail)
  refine X5_later H R2 ?_
  repeat' (first | (refine Rules.st H okX5_visitBoth [] ?_; conv => whnf) | refine br_t (by first | decide | assumption) ?_ | refine br_f (by first | decide | assumption) ?_ | refine br_c (fun _ => ?_) (fun _ => ?_) | refine ⟨by decide, ?_⟩ | refine ⟨by first | assumption | (unfold vp_in; decide) | ((with_reducible (refine vp_in_nI ?_ ?_)) <;> omega), ?_⟩ | fail)
  have R3 := R2.put3 (o := 5) (j := 0) (v := laterK (walkK (walkK K 0 (r + 1)) 1 (r + 1))) (by omega) (by omega)
  have F3 : FrM S2 (up S2 33 0 (laterK (walkK (walkK K 0 (r + 1)) 1 (r + 1)))) := FrM.put i330
  rw [show (0 : Int32).toNatClampNeg = 0 from rfl]
  have R3 : RepM (up S2 33 0 (laterK (walkK (walkK K 0 (r + 1)) 1 (r + 1)))) _ d := R3
  generalize up S2 33 0 _ = S3 at R3 F3 ⊢
  refine X5_work H R3 (by omega) ?_
  repeat' (first | (refine Rules.st H okX5_visitBoth [] ?_; conv => whnf) | refine br_t (by first | decide | assumption) ?_ | refine br_f (by first | decide | assumption) ?_ | refine br_c (fun _ => ?_) (fun _ => ?_) | refine ⟨by decide, ?_⟩ | refine ⟨by first | assumption | (unfold vp_in; decide) | ((with_reducible (refine vp_in_nI ?_ ?_)) <;> omega), ?_⟩ | fail)
  refine X5_atDoor H R3 (m := 0) (by omega) (by omega) (fun S4 R4 F4 => ?_)
  repeat' (first | (refine Rules.st H okX5_visitBoth [] ?_; conv => whnf) | refine br_t (by first | decide | assumption) ?_ | refine br_f (by first | decide | assumption) ?_ | refine br_c (fun _ => ?_) (fun _ => ?_) | refine ⟨by decide, ?_⟩ | refine ⟨by first | assumption | (unfold vp_in; decide) | ((with_reducible (refine vp_in_nI ?_ ?_)) <;> omega), ?_⟩ | fail)
  rw [show (0 : Int32).toNatClampNeg = 0 from rfl, show (1 : Int32).toNatClampNeg = 1 from rfl, R4.ck (m := 0) (by omega)]
  exact h1 _ (R4.put3 (o := 5) (by omega) (by omega)) ((((F1.tr F2).tr F3).tr F4).tr (FrM.put i331))
end M5
