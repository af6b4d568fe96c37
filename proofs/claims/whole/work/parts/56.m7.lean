section M7
variable {C : Cst} {T : Nat → Pst → Nat → Lcs → List Value → Mem → Prop}
/-- the reference between calls: the corridor K of n rooms -/
def XM (S K : Mem) (n : Nat) : Prop := (∃ d, RepM S K d) ∧ Gd K n ∧ KZ K
def ScMY (k : Nat) (S S' : Mem) : Prop := ∀ a j, ¬ scrM a j → ¬ inM a j → S' a j = if a = 26 ∧ j = k ∧ ¬ k = 0 then S a j + 1 else S a j
/-- the corridor may have changed -/
def AnsMY (S : Mem) (a : Ans) (K' : Mem) (Q : Pst) : Prop := ∀ S', (∃ d, RepM S' K' d) → ScMY a.1 S S' → Q (some (.int a.2)) S'
set_option maxRecDepth 100000 in
theorem ScMY.fr {S S' : Mem} (h : FrM S S') : ScMY 0 S S' := fun a j _ h2 => by
  rw [if_neg (fun z => z.2.2 rfl)]
  exact h a j h2
set_option maxRecDepth 100000 in
theorem ScM.y {k : Nat} {S S' : Mem} (h : ScM k S S') : ScMY k S S' := fun a j h1 _ => h a j h1
set_option maxRecDepth 100000 in
theorem ScM.rep {k : Nat} {S S' K : Mem} {d : Int32} (h : ScM k S S') (R : RepM S K d) : ∃ d', RepM S' K d' := ⟨S' 25 22 - K 0 4, fun a j hi => by
  by_cases q : a = 25 ∧ j = 22
  · obtain ⟨rfl, rfl⟩ := q
    rw [mv25, if_neg (by omega), if_neg (by omega), Int32.sub_add_cancel]
  · have hs : ¬ scrM a j := by unfold scrM; unfold inM at hi; omega
    rw [h a j hs, if_neg (by unfold inM at hi; omega), R a j hi]
    unfold inM at hi
    rcases hi with ⟨rfl, hi⟩ | ⟨rfl | rfl | rfl | rfl, hb⟩ | ⟨hb, hj⟩
    · rw [mv25, mv25]
      rcases hi with rfl | rfl | rfl
      · rw [if_pos rfl, if_pos rfl]
      · rw [if_neg (by omega), if_pos rfl, if_neg (by omega), if_pos rfl]
      · omega
    · rw [mv27, mv27]
    · rw [mv28, mv28]
    · rw [mv29, mv29]
    · rw [mv30, mv30]
    · rw [mv31 _ _ _ (by omega), mv31 _ _ _ (by omega)]⟩
set_option maxRecDepth 100000 in
theorem bt_if (x : Int32) (r : Nat) : (if bt x r = 0 then (0 : Int32) else 1) = bt x r := by
  rcases bt_2 x r with h | h
  · rw [if_pos h, h]
  · rw [if_neg (bt_10 h), h]
set_option maxRecDepth 100000 in
theorem X5_room (H : Rules C T) {S K : Mem} {n : Nat} (X : XM S K n) {r w : Int32} {Q : Pst} (h1 : AnsM S (F_room K n r w) Q) : C mX5_room [.ref 25, .int r, .int w] S Q := by
  obtain ⟨⟨d, R⟩, g, hz⟩ := X
  have hn8 := g.2.1
  unfold F_room at h1
  refine Rules.go H (by decide) (Nat.le_of_ble_eq_true rfl) ?_
  repeat' (first | (refine Rules.st H okX5_room [] ?_; conv => whnf) | refine br_t (by first | decide | assumption) ?_ | refine br_f (by first | decide | assumption) ?_ | refine br_c (fun _ => ?_) (fun _ => ?_) | refine ⟨by decide, ?_⟩ | refine ⟨by first | assumption | (unfold vp_in; decide) | ((with_reducible (refine vp_in_nI ?_ ?_)) <;> omega), ?_⟩ | fail)
  refine X5_isRoom H (R.rm.trans g.1) hn8 (fun i hi e => ?_) (fun hno => ?_)
  · subst e
    have cr : (nI i).toNatClampNeg = i := nIc (by omega)
    rw [if_pos (okR_nI hn8 hi), show ix (nI i) = i from cr, bt_if, bt_if] at h1
    conv => whnf
    (refine Rules.st H okX5_room [] ?_; conv => whnf)
    refine br_f (by decide) ?_
    conv => whnf
    (refine Rules.st H okX5_room [] ?_; conv => whnf)
    (refine Rules.st H okX5_room [] ?_; conv => whnf)
    refine br_c (fun e => ?_) (fun e0 => ?_)
    · rw [if_pos e] at h1
      repeat' (first | (refine Rules.st H okX5_room [] ?_; conv => whnf) | refine br_t (by first | decide | assumption) ?_ | refine br_f (by first | decide | assumption) ?_ | refine br_c (fun _ => ?_) (fun _ => ?_) | refine ⟨by decide, ?_⟩ | refine ⟨by first | assumption | (unfold vp_in; decide) | ((with_reducible (refine vp_in_nI ?_ ?_)) <;> omega), ?_⟩ | fail)
      rw [cr, R.kd (by omega)]
      exact h1 S ScM.rf
    rw [if_neg e0] at h1
    conv => whnf
    refine br_c (fun e => ?_) (fun e1 => ?_)
    · rw [if_pos e] at h1
      repeat' (first | (refine Rules.st H okX5_room [] ?_; conv => whnf) | refine br_t (by first | decide | assumption) ?_ | refine br_f (by first | decide | assumption) ?_ | refine br_c (fun _ => ?_) (fun _ => ?_) | refine ⟨by decide, ?_⟩ | refine ⟨by first | assumption | (unfold vp_in; decide) | ((with_reducible (refine vp_in_nI ?_ ?_)) <;> omega), ?_⟩ | fail)
      rw [cr, R.fg (by omega)]
      exact h1 S ScM.rf
    rw [if_neg e1] at h1
    conv => whnf
    refine br_c (fun e => ?_) (fun e2 => ?_)
    · rw [if_pos e] at h1
      repeat' (first | (refine Rules.st H okX5_room [] ?_; conv => whnf) | refine br_t (by first | decide | assumption) ?_ | refine br_f (by first | decide | assumption) ?_ | refine br_c (fun _ => ?_) (fun _ => ?_) | refine ⟨by decide, ?_⟩ | refine ⟨by first | assumption | (unfold vp_in; decide) | ((with_reducible (refine vp_in_nI ?_ ?_)) <;> omega), ?_⟩ | fail)
      rw [cr, R.de (by omega)]
      exact h1 S ScM.rf
    rw [if_neg e2] at h1
    conv => whnf
    refine br_c (fun e => ?_) (fun e3 => ?_)
    · rw [if_pos e] at h1
      repeat' (first | (refine Rules.st H okX5_room [] ?_; conv => whnf) | refine br_t (by first | decide | assumption) ?_ | refine br_f (by first | decide | assumption) ?_ | refine br_c (fun _ => ?_) (fun _ => ?_) | refine ⟨by decide, ?_⟩ | refine ⟨by first | assumption | (unfold vp_in; decide) | ((with_reducible (refine vp_in_nI ?_ ?_)) <;> omega), ?_⟩ | fail)
      rw [cr, R.cd (by omega)]
      exact h1 S ScM.rf
    rw [if_neg e3] at h1
    conv => whnf
    refine br_c (fun e => ?_) (fun e4 => ?_)
    · rw [if_pos e] at h1
      repeat' (first | (refine Rules.st H okX5_room [] ?_; conv => whnf) | refine br_t (by first | decide | assumption) ?_ | refine br_f (by first | decide | assumption) ?_ | refine br_c (fun _ => ?_) (fun _ => ?_) | refine ⟨by decide, ?_⟩ | refine ⟨by first | assumption | (unfold vp_in; decide) | ((with_reducible (refine vp_in_nI ?_ ?_)) <;> omega), ?_⟩ | fail)
      refine X5_work H R (by omega) ?_
      repeat' (first | (refine Rules.st H okX5_room [] ?_; conv => whnf) | refine br_t (by first | decide | assumption) ?_ | refine br_f (by first | decide | assumption) ?_ | refine br_c (fun _ => ?_) (fun _ => ?_) | refine ⟨by decide, ?_⟩ | refine ⟨by first | assumption | (unfold vp_in; decide) | ((with_reducible (refine vp_in_nI ?_ ?_)) <;> omega), ?_⟩ | fail)
      exact h1 S ScM.rf
    rw [if_neg e4] at h1
    conv => whnf
    refine br_c (fun e => ?_) (fun e5 => ?_)
    · rw [if_pos e] at h1
      repeat' (first | (refine Rules.st H okX5_room [] ?_; conv => whnf) | refine br_t (by first | decide | assumption) ?_ | refine br_f (by first | decide | assumption) ?_ | refine br_c (fun _ => ?_) (fun _ => ?_) | refine ⟨by decide, ?_⟩ | refine ⟨by first | assumption | (unfold vp_in; decide) | ((with_reducible (refine vp_in_nI ?_ ?_)) <;> omega), ?_⟩ | fail)
      refine X5_linen H R (by omega) ?_
      repeat' (first | (refine Rules.st H okX5_room [] ?_; conv => whnf) | refine br_t (by first | decide | assumption) ?_ | refine br_f (by first | decide | assumption) ?_ | refine br_c (fun _ => ?_) (fun _ => ?_) | refine ⟨by decide, ?_⟩ | refine ⟨by first | assumption | (unfold vp_in; decide) | ((with_reducible (refine vp_in_nI ?_ ?_)) <;> omega), ?_⟩ | fail)
      exact h1 S ScM.rf
    rw [if_neg e5] at h1
    conv => whnf
    refine br_c (fun e => ?_) (fun e6 => ?_)
    · rw [if_pos e] at h1
      repeat' (first | (refine Rules.st H okX5_room [] ?_; conv => whnf) | refine br_t (by first | decide | assumption) ?_ | refine br_f (by first | decide | assumption) ?_ | refine br_c (fun _ => ?_) (fun _ => ?_) | refine ⟨by decide, ?_⟩ | refine ⟨by first | assumption | (unfold vp_in; decide) | ((with_reducible (refine vp_in_nI ?_ ?_)) <;> omega), ?_⟩ | fail)
      refine X5_tip H R (by omega) ?_
      repeat' (first | (refine Rules.st H okX5_room [] ?_; conv => whnf) | refine br_t (by first | decide | assumption) ?_ | refine br_f (by first | decide | assumption) ?_ | refine br_c (fun _ => ?_) (fun _ => ?_) | refine ⟨by decide, ?_⟩ | refine ⟨by first | assumption | (unfold vp_in; decide) | ((with_reducible (refine vp_in_nI ?_ ?_)) <;> omega), ?_⟩ | fail)
      exact h1 S ScM.rf
    rw [if_neg e6] at h1
    repeat' (first | (refine Rules.st H okX5_room [] ?_; conv => whnf) | refine br_t (by first | decide | assumption) ?_ | refine br_f (by first | decide | assumption) ?_ | refine br_c (fun _ => ?_) (fun _ => ?_) | refine ⟨by decide, ?_⟩ | refine ⟨by first | assumption | (unfold vp_in; decide) | ((with_reducible (refine vp_in_nI ?_ ?_)) <;> omega), ?_⟩ | fail)
    refine X5_no H ScM.rf (k := 2) (by omega) (by omega) (by decide) (fun S' hS' => ?_)
    repeat' (first | (refine Rules.st H okX5_room [] ?_; conv => whnf) | refine br_t (by first | decide | assumption) ?_ | refine br_f (by first | decide | assumption) ?_ | refine br_c (fun _ => ?_) (fun _ => ?_) | refine ⟨by decide, ?_⟩ | refine ⟨by first | assumption | (unfold vp_in; decide) | ((with_reducible (refine vp_in_nI ?_ ?_)) <;> omega), ?_⟩ | fail)
    exact h1 S' hS'
  · rw [if_neg (okR_neg hn8 hno)] at h1
    repeat' (first | (refine Rules.st H okX5_room [] ?_; conv => whnf) | refine br_t (by first | decide | assumption) ?_ | refine br_f (by first | decide | assumption) ?_ | refine br_c (fun _ => ?_) (fun _ => ?_) | refine ⟨by decide, ?_⟩ | refine ⟨by first | assumption | (unfold vp_in; decide) | ((with_reducible (refine vp_in_nI ?_ ?_)) <;> omega), ?_⟩ | fail)
    refine X5_no H ScM.rf (k := 1) (by omega) (by omega) (by decide) (fun S' hS' => ?_)
    repeat' (first | (refine Rules.st H okX5_room [] ?_; conv => whnf) | refine br_t (by first | decide | assumption) ?_ | refine br_f (by first | decide | assumption) ?_ | refine br_c (fun _ => ?_) (fun _ => ?_) | refine ⟨by decide, ?_⟩ | refine ⟨by first | assumption | (unfold vp_in; decide) | ((with_reducible (refine vp_in_nI ?_ ?_)) <;> omega), ?_⟩ | fail)
    exact h1 S' hS'
set_option maxRecDepth 100000 in
theorem X5_maid (H : Rules C T) {S K : Mem} {n : Nat} (X : XM S K n) {m w : Int32} {Q : Pst} (h1 : AnsM S (F_maid K m w) Q) : C mX5_maid [.ref 25, .int m, .int w] S Q := by
  obtain ⟨⟨d, R⟩, g, hz⟩ := X
  unfold F_maid at h1
  refine Rules.go H (by decide) (Nat.le_of_ble_eq_true rfl) ?_
  repeat' (first | (refine Rules.st H okX5_maid [] ?_; conv => whnf) | refine br_t (by first | decide | assumption) ?_ | refine br_f (by first | decide | assumption) ?_ | refine br_c (fun _ => ?_) (fun _ => ?_) | refine ⟨by decide, ?_⟩ | refine ⟨by first | assumption | (unfold vp_in; decide) | ((with_reducible (refine vp_in_nI ?_ ?_)) <;> omega), ?_⟩ | fail)
  refine X5_isMaid H (fun i hi e => ?_) (fun hno => ?_)
  · subst e
    have cr : (nI i).toNatClampNeg = i := nIc (by omega)
    rw [if_pos (okM_nI hi), show ix (nI i) = i from cr] at h1
    conv => whnf
    (refine Rules.st H okX5_maid [] ?_; conv => whnf)
    refine br_f (by decide) ?_
    conv => whnf
    (refine Rules.st H okX5_maid [] ?_; conv => whnf)
    (refine Rules.st H okX5_maid [] ?_; conv => whnf)
    refine br_c (fun e => ?_) (fun e0 => ?_)
    · rw [if_pos e] at h1
      repeat' (first | (refine Rules.st H okX5_maid [] ?_; conv => whnf) | refine br_t (by first | decide | assumption) ?_ | refine br_f (by first | decide | assumption) ?_ | refine br_c (fun _ => ?_) (fun _ => ?_) | refine ⟨by decide, ?_⟩ | refine ⟨by first | assumption | (unfold vp_in; decide) | ((with_reducible (refine vp_in_nI ?_ ?_)) <;> omega), ?_⟩ | fail)
      rw [cr, R.at hi]
      exact h1 S ScM.rf
    rw [if_neg e0] at h1
    conv => whnf
    refine br_c (fun e => ?_) (fun e1 => ?_)
    · rw [if_pos e] at h1
      repeat' (first | (refine Rules.st H okX5_maid [] ?_; conv => whnf) | refine br_t (by first | decide | assumption) ?_ | refine br_f (by first | decide | assumption) ?_ | refine br_c (fun _ => ?_) (fun _ => ?_) | refine ⟨by decide, ?_⟩ | refine ⟨by first | assumption | (unfold vp_in; decide) | ((with_reducible (refine vp_in_nI ?_ ?_)) <;> omega), ?_⟩ | fail)
      rw [cr, R.ld hi]
      exact h1 S ScM.rf
    rw [if_neg e1] at h1
    conv => whnf
    refine br_c (fun e => ?_) (fun e2 => ?_)
    · rw [if_pos e] at h1
      repeat' (first | (refine Rules.st H okX5_maid [] ?_; conv => whnf) | refine br_t (by first | decide | assumption) ?_ | refine br_f (by first | decide | assumption) ?_ | refine br_c (fun _ => ?_) (fun _ => ?_) | refine ⟨by decide, ?_⟩ | refine ⟨by first | assumption | (unfold vp_in; decide) | ((with_reducible (refine vp_in_nI ?_ ?_)) <;> omega), ?_⟩ | fail)
      rw [cr, R.ck hi]
      exact h1 S ScM.rf
    rw [if_neg e2] at h1
    repeat' (first | (refine Rules.st H okX5_maid [] ?_; conv => whnf) | refine br_t (by first | decide | assumption) ?_ | refine br_f (by first | decide | assumption) ?_ | refine br_c (fun _ => ?_) (fun _ => ?_) | refine ⟨by decide, ?_⟩ | refine ⟨by first | assumption | (unfold vp_in; decide) | ((with_reducible (refine vp_in_nI ?_ ?_)) <;> omega), ?_⟩ | fail)
    refine X5_no H ScM.rf (k := 2) (by omega) (by omega) (by decide) (fun S' hS' => ?_)
    repeat' (first | (refine Rules.st H okX5_maid [] ?_; conv => whnf) | refine br_t (by first | decide | assumption) ?_ | refine br_f (by first | decide | assumption) ?_ | refine br_c (fun _ => ?_) (fun _ => ?_) | refine ⟨by decide, ?_⟩ | refine ⟨by first | assumption | (unfold vp_in; decide) | ((with_reducible (refine vp_in_nI ?_ ?_)) <;> omega), ?_⟩ | fail)
    exact h1 S' hS'
  · rw [if_neg (okM_neg hno)] at h1
    repeat' (first | (refine Rules.st H okX5_maid [] ?_; conv => whnf) | refine br_t (by first | decide | assumption) ?_ | refine br_f (by first | decide | assumption) ?_ | refine br_c (fun _ => ?_) (fun _ => ?_) | refine ⟨by decide, ?_⟩ | refine ⟨by first | assumption | (unfold vp_in; decide) | ((with_reducible (refine vp_in_nI ?_ ?_)) <;> omega), ?_⟩ | fail)
    refine X5_no H ScM.rf (k := 1) (by omega) (by omega) (by decide) (fun S' hS' => ?_)
    repeat' (first | (refine Rules.st H okX5_maid [] ?_; conv => whnf) | refine br_t (by first | decide | assumption) ?_ | refine br_f (by first | decide | assumption) ?_ | refine br_c (fun _ => ?_) (fun _ => ?_) | refine ⟨by decide, ?_⟩ | refine ⟨by first | assumption | (unfold vp_in; decide) | ((with_reducible (refine vp_in_nI ?_ ?_)) <;> omega), ?_⟩ | fail)
    exact h1 S' hS'
set_option maxRecDepth 100000 in
theorem X5_other (H : Rules C T) {S K : Mem} {n f : Nat} (hf : f = 1 ∨ f = 2) (X : XM S K n) {r : Int32} {Q : Pst} (h1 : AnsMY S (F_flip K n f r).1 (F_flip K n f r).2 Q) : C mX5_other [.ref 25, .ref (28 + f), .int r] S Q := by
  obtain ⟨⟨d, R⟩, g, hz⟩ := X
  have hn8 := g.2.1
  unfold F_flip at h1
  have fin : ∀ i, i < n → r = nI i → Q (some (.int (up S (28 + f) (nI i).toNatClampNeg (1 - S (28 + f) (nI i).toNatClampNeg) (28 + f) (nI i).toNatClampNeg))) (up S (28 + f) (nI i).toNatClampNeg (1 - S (28 + f) (nI i).toNatClampNeg)) := fun i hi e => by
    have cr : (nI i).toNatClampNeg = i := nIc (by omega)
    subst e
    rw [if_pos (okR_nI hn8 hi), show ix (nI i) = i from cr, bt_if] at h1
    rw [cr, up_at]
    have ex : S (28 + f) i = bt (K 0 f) i := by
      rcases hf with rfl | rfl
      · exact R.de (by omega)
      · exact R.cd (by omega)
    have hb : bt (flipK K f i 0 f) i = 1 - bt (K 0 f) i := by
      unfold flipK
      rw [up_at, bt_xor _ (by omega) (by omega), if_pos rfl]
    have := h1 (up S (28 + f) i (1 - bt (K 0 f) i)) ⟨d, R.putF hf (by omega) rfl⟩ (ScMY.fr (FrM.put (by unfold inM; omega)))
    rw [hb] at this
    rw [ex]
    exact this
  rcases hf with rfl | rfl <;>
  · refine Rules.go H (by decide) (Nat.le_of_ble_eq_true rfl) ?_
    repeat' (first | (refine Rules.st H okX5_other [] ?_; conv => whnf) | refine br_t (by first | decide | assumption) ?_ | refine br_f (by first | decide | assumption) ?_ | refine br_c (fun _ => ?_) (fun _ => ?_) | refine ⟨by decide, ?_⟩ | refine ⟨by first | assumption | (unfold vp_in; decide) | ((with_reducible (refine vp_in_nI ?_ ?_)) <;> omega), ?_⟩ | fail)
    refine X5_isRoom H (R.rm.trans g.1) hn8 (fun i hi e => ?_) (fun hno => ?_)
    · subst e
      repeat' (first | (refine Rules.st H okX5_other [] ?_; conv => whnf) | refine br_t (by first | decide | assumption) ?_ | refine br_f (by first | decide | assumption) ?_ | refine br_c (fun _ => ?_) (fun _ => ?_) | refine ⟨by decide, ?_⟩ | refine ⟨by first | assumption | (unfold vp_in; decide) | ((with_reducible (refine vp_in_nI ?_ ?_)) <;> omega), ?_⟩ | fail)
      exact fin i hi rfl
    · rw [if_neg (okR_neg hn8 hno)] at h1
      repeat' (first | (refine Rules.st H okX5_other [] ?_; conv => whnf) | refine br_t (by first | decide | assumption) ?_ | refine br_f (by first | decide | assumption) ?_ | refine br_c (fun _ => ?_) (fun _ => ?_) | refine ⟨by decide, ?_⟩ | refine ⟨by first | assumption | (unfold vp_in; decide) | ((with_reducible (refine vp_in_nI ?_ ?_)) <;> omega), ?_⟩ | fail)
      refine X5_no H ScM.rf (k := 1) (by omega) (by omega) (by decide) (fun S' hS' => ?_)
      repeat' (first | (refine Rules.st H okX5_other [] ?_; conv => whnf) | refine br_t (by first | decide | assumption) ?_ | refine br_f (by first | decide | assumption) ?_ | refine br_c (fun _ => ?_) (fun _ => ?_) | refine ⟨by decide, ?_⟩ | refine ⟨by first | assumption | (unfold vp_in; decide) | ((with_reducible (refine vp_in_nI ?_ ?_)) <;> omega), ?_⟩ | fail)
      exact h1 S' (hS'.rep R) hS'.y
set_option maxRecDepth 100000 in
theorem X5_card (H : Rules C T) {S K : Mem} {n : Nat} (X : XM S K n) {r : Int32} {Q : Pst} (h1 : AnsMY S (F_flip K n 2 r).1 (F_flip K n 2 r).2 Q) : C mX5_card [.ref 25, .int r] S Q := by
  refine Rules.go H (by decide) (Nat.le_of_ble_eq_true rfl) ?_
  repeat' (first | (refine Rules.st H okX5_card [] ?_; conv => whnf) | refine br_t (by first | decide | assumption) ?_ | refine br_f (by first | decide | assumption) ?_ | refine br_c (fun _ => ?_) (fun _ => ?_) | refine ⟨by decide, ?_⟩ | refine ⟨by first | assumption | (unfold vp_in; decide) | ((with_reducible (refine vp_in_nI ?_ ?_)) <;> omega), ?_⟩ | fail)
  exact X5_other H (f := 2) (Or.inr rfl) X (fun S' a b => by
    repeat' (first | (refine Rules.st H okX5_card [] ?_; conv => whnf) | refine br_t (by first | decide | assumption) ?_ | refine br_f (by first | decide | assumption) ?_ | refine br_c (fun _ => ?_) (fun _ => ?_) | refine ⟨by decide, ?_⟩ | refine ⟨by first | assumption | (unfold vp_in; decide) | ((with_reducible (refine vp_in_nI ?_ ?_)) <;> omega), ?_⟩ | fail)
    exact h1 S' a b)
set_option maxRecDepth 100000 in
theorem X5_undo (H : Rules C T) {S K : Mem} {n : Nat} (X : XM S K n) {r : Int32} {Q : Pst} (h1 : AnsMY S (F_flip K n 1 r).1 (F_flip K n 1 r).2 Q) : C mX5_undo [.ref 25, .int r] S Q := by
  refine Rules.go H (by decide) (Nat.le_of_ble_eq_true rfl) ?_
  repeat' (first | (refine Rules.st H okX5_undo [] ?_; conv => whnf) | refine br_t (by first | decide | assumption) ?_ | refine br_f (by first | decide | assumption) ?_ | refine br_c (fun _ => ?_) (fun _ => ?_) | refine ⟨by decide, ?_⟩ | refine ⟨by first | assumption | (unfold vp_in; decide) | ((with_reducible (refine vp_in_nI ?_ ?_)) <;> omega), ?_⟩ | fail)
  exact X5_other H (f := 1) (Or.inl rfl) X (fun S' a b => by
    repeat' (first | (refine Rules.st H okX5_undo [] ?_; conv => whnf) | refine br_t (by first | decide | assumption) ?_ | refine br_f (by first | decide | assumption) ?_ | refine br_c (fun _ => ?_) (fun _ => ?_) | refine ⟨by decide, ?_⟩ | refine ⟨by first | assumption | (unfold vp_in; decide) | ((with_reducible (refine vp_in_nI ?_ ?_)) <;> omega), ?_⟩ | fail)
    exact h1 S' a b)
end M7
