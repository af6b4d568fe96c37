section LAW1
variable {C : Cst} {T : Nat → Pst → Nat → Lcs → List Value → Mem → Prop}
/-- the image: none on both sides, or the same corridor on both -/
def Img (S : Mem) : Prop := (S 0 3 = 0 ∧ S 25 18 = 0) ∨ (S 0 3 = 1 ∧ S 25 18 = 1 ∧ ∃ (Kk : Mem) (nk : Nat) (Sk : Mem) (dk : Int32), RepC 13 S Kk ∧ KZ Kk ∧ KeptM 0 S Sk ∧ RepM Sk Kk dk ∧ Gd Kk nk ∧ BK 999 Kk)
/-- THE RELATION: class and reference hold the same -/
def RD (S K : Mem) (n : Nat) (row : Nat → Int32) (q : Nat) (lt : Nat → Int32) (l : Nat) : Prop := XK S K n ∧ XM S K n ∧ BK 999 K ∧ XR S row q ∧ XRM S row q ∧ XU S lt l ∧ XTM S l ∧ (∀ j, j < l → S 34 j = lt j) ∧ (∀ j, 1 ≤ j → j ≤ 6 → S 26 j = S 22 j) ∧ Img S
def Rel (S : Mem) : Prop := ∃ (K : Mem) (n : Nat) (row : Nat → Int32) (q : Nat) (lt : Nat → Int32) (l : Nat), RD S K n row q lt l
set_option maxRecDepth 100000 in
theorem RepC.cong {c : Nat} {S S' K : Mem} (h : RepC c S K) (e : ∀ a j, c ≤ a → a ≤ c + 5 → S' a j = S a j) : RepC c S' K := fun o j hi => by
  rw [e (c + o) j (by omega) (by unfold inr at hi; omega)]
  exact h o j hi
set_option maxRecDepth 100000 in
theorem RepM.cong {S S' K : Mem} {d : Int32} (h : RepM S K d) (e : ∀ a j, inM a j → S' a j = S a j) : RepM S' K d := fun a j hi => (e a j hi).trans (h a j hi)
set_option maxRecDepth 100000 in
theorem XM.cong {S S' K : Mem} {n : Nat} (h : XM S K n) (e : ∀ a j, 25 ≤ a → S' a j = S a j) : XM S' K n := ⟨by
  obtain ⟨⟨d, R⟩, _⟩ := h
  exact ⟨d, R.cong (fun a j hi => e a j (by unfold inM at hi; omega))⟩, h.2⟩
set_option maxRecDepth 100000 in
theorem XR.cong {S S' : Mem} {row : Nat → Int32} {q : Nat} (h : XR S row q) (e1 : S' 0 6 = S 0 6) (e2 : ∀ j, S' 21 j = S 21 j) : XR S' row q := ⟨h.1, e1.trans h.2.1, fun j hj => (e2 j).trans (h.2.2 j hj)⟩
set_option maxRecDepth 100000 in
theorem XU.cong {S S' : Mem} {lt : Nat → Int32} {l : Nat} (h : XU S lt l) (e1 : S' 19 1 = S 19 1) (e2 : ∀ j, S' 20 j = S 20 j) : XU S' lt l := ⟨⟨h.1.1, e1.trans h.1.2⟩, fun j hj => (e2 j).trans (h.2 j hj)⟩
set_option maxRecDepth 100000 in
theorem Img.cong {S S' : Mem} (h : Img S) (e1 : S' 0 3 = S 0 3) (e2 : S' 25 18 = S 25 18) (e3 : ∀ a j, 13 ≤ a → a ≤ 18 → S' a j = S a j) (e4 : ∀ j, j < 39 → S' 38 j = S 38 j) : Img S' := by
  rcases h with ⟨h1, h2⟩ | ⟨h1, h2, Kk, nk, Sk, dk, c1, c2, c3, c4, c5, c6⟩
  · exact Or.inl ⟨e1.trans h1, e2.trans h2⟩
  · exact Or.inr ⟨e1.trans h1, e2.trans h2, Kk, nk, Sk, dk, c1.cong (fun a j g1 g2 => e3 a j g1 (by omega)), c2, fun j hj => by rw [e4 (39 * 0 + j) (by omega)]; exact c3 j hj, c4, c5, c6⟩
set_option maxRecDepth 100000 in
theorem RD.c {S K : Mem} {n q l : Nat} {row lt : Nat → Int32} (D : RD S K n row q lt l) : XK S K n := D.1
set_option maxRecDepth 100000 in
theorem RD.r {S K : Mem} {n q l : Nat} {row lt : Nat → Int32} (D : RD S K n row q lt l) : XR S row q := D.2.2.2.1
set_option maxRecDepth 100000 in
theorem RD.b {S K : Mem} {n q l : Nat} {row lt : Nat → Int32} (D : RD S K n row q lt l) : BK 999 K := D.2.2.1
set_option maxRecDepth 100000 in
theorem RD.g {S K : Mem} {n q l : Nat} {row lt : Nat → Int32} (D : RD S K n row q lt l) : Gd K n := D.2.1.2.1
set_option maxRecDepth 100000 in
theorem RD.z {S K : Mem} {n q l : Nat} {row lt : Nat → Int32} (D : RD S K n row q lt l) : KZ K := D.2.1.2.2
set_option maxRecDepth 100000 in
theorem ScX.hi {k : Nat} {S S1 : Mem} (s : ScX k S S1) : ∀ a j, 25 ≤ a → S1 a j = S a j := fun a j h => by rw [s a j (by unfold scrX; omega), if_neg (by omega)]
set_option maxRecDepth 100000 in
theorem ScY.hi {k : Nat} {S S1 : Mem} (s : ScY k S S1) : ∀ a j, 25 ≤ a → S1 a j = S a j := fun a j h => by rw [s a j (by unfold scrX; omega) (by omega), if_neg (by omega)]
set_option maxRecDepth 100000 in
theorem ScM.lo {k : Nat} {S S1 : Mem} (s : ScM k S S1) : ∀ a j, a < 25 → S1 a j = S a j := fun a j h => by rw [s a j (by unfold scrM; omega), if_neg (by omega)]
set_option maxRecDepth 100000 in
theorem ScMY.lo {k : Nat} {S S1 : Mem} (s : ScMY k S S1) : ∀ a j, a < 25 → S1 a j = S a j := fun a j h => by rw [s a j (by unfold scrM; omega) (by unfold inM; omega), if_neg (by omega)]
set_option maxRecDepth 100000 in
theorem RD.mX {S S1 K : Mem} {n q l k : Nat} {row lt : Nat → Int32} (D : RD S K n row q lt l) (s : ScX k S S1) : XM S1 K n := D.2.1.cong s.hi
set_option maxRecDepth 100000 in
theorem RD.rX {S S1 K : Mem} {n q l k : Nat} {row lt : Nat → Int32} (D : RD S K n row q lt l) (s : ScX k S S1) : XRM S1 row q := D.2.2.2.2.1.of (s.hi _ _ (by omega)) (fun j => s.hi _ _ (by omega))
set_option maxRecDepth 100000 in
theorem RD.mY {S S1 K : Mem} {n q l k : Nat} {row lt : Nat → Int32} (D : RD S K n row q lt l) (s : ScY k S S1) : XM S1 K n := D.2.1.cong s.hi
set_option maxRecDepth 100000 in
theorem RD.ansX {S S1 S2 K : Mem} {n q l k : Nat} {row lt : Nat → Int32} (D : RD S K n row q lt l) (s1 : ScX k S S1) (s2 : ScM k S1 S2) : Rel S2 := by
  have D0 := D
  obtain ⟨c, m, b, r, rm, u, t, tp, rf, im⟩ := D
  have e : ∀ a j, a < 25 → ¬ scrX a → ¬ a = 22 → S2 a j = S a j := fun a j h1 h2 h3 => by rw [s2.lo a j h1, s1 a j h2, if_neg (fun z => h3 z.1)]
  have f : ∀ a j, 25 ≤ a → ¬ scrM a j → ¬ a = 26 → S2 a j = S a j := fun a j h1 h2 h3 => by rw [s2 a j h2, if_neg (fun z => h3 z.1), s1.hi a j h1]
  obtain ⟨⟨d, R⟩, g, z⟩ := D0.mX s1
  refine ⟨K, n, row, q, lt, l, ⟨c.1.cong (fun a j g1 g2 => e a j (by omega) (by unfold scrX; omega) (by omega)), c.2⟩, ⟨s2.rep R, g, z⟩, b, r.cong (e _ _ (by omega) (by unfold scrX; omega) (by omega)) (fun j => e _ _ (by omega) (by unfold scrX; omega) (by omega)), rm.of (f _ _ (by omega) (by unfold scrM; omega) (by omega)) (fun j => f _ _ (by omega) (by unfold scrM; omega) (by omega)), u.cong (e _ _ (by omega) (by unfold scrX; omega) (by omega)) (fun j => e _ _ (by omega) (by unfold scrX; omega) (by omega)), ⟨(f _ _ (by omega) (by unfold scrM; omega) (by omega)).trans t.1, t.2⟩, fun j hj => (f _ _ (by omega) (by unfold scrM; omega) (by omega)).trans (tp j hj), fun j h1 h6 => ?_, im.cong (e _ _ (by omega) (by unfold scrX; omega) (by omega)) (f _ _ (by omega) (by unfold scrM; omega) (by omega)) (fun a j g1 g2 => e _ _ (by omega) (by unfold scrX; omega) (by omega)) (fun j hj => f _ _ (by omega) (by unfold scrM; omega) (by omega))⟩
  rw [s2 26 j (by unfold scrM; omega), s1.hi 26 j (by omega), s2.lo 22 j (by omega), s1 22 j (by unfold scrX; omega), rf j h1 h6]
  by_cases h : j = k ∧ ¬ k = 0
  · rw [if_pos ⟨rfl, h⟩, if_pos ⟨rfl, h⟩]
  · rw [if_neg (fun z => h z.2), if_neg (fun z => h z.2)]
set_option maxRecDepth 100000 in
theorem RD.ansY {S S1 S2 K K' : Mem} {n n' q l k : Nat} {row lt : Nat → Int32} (D : RD S K n row q lt l) (R1 : RepC 1 S1 K') (s1 : ScY k S S1) (R2 : ∃ d, RepM S2 K' d) (s2 : ScMY k S1 S2) (g : Gd K' n') (b : BK 999 K') (z : KZ K') : Rel S2 := by
  obtain ⟨c, m, _, r, rm, u, t, tp, rf, im⟩ := D
  have e : ∀ a j, a < 25 → ¬ scrX a → ¬ a = 22 → ¬ (1 ≤ a ∧ a ≤ 6) → S2 a j = S a j := fun a j h1 h2 h3 h4 => by rw [s2.lo a j h1, s1 a j h2 h4, if_neg (fun z => h3 z.1)]
  have f : ∀ a j, 25 ≤ a → ¬ scrM a j → ¬ inM a j → ¬ a = 26 → S2 a j = S a j := fun a j h1 h2 h4 h3 => by rw [s2 a j h2 h4, if_neg (fun z => h3 z.1), s1.hi a j h1]
  refine ⟨K', n', row, q, lt, l, ⟨R1.cong (fun a j g1 g2 => s2.lo a j (by omega)), g.1, g.2.1, z⟩, ⟨R2, g, z⟩, b, r.cong (e _ _ (by omega) (by unfold scrX; omega) (by omega) (by omega)) (fun j => e _ _ (by omega) (by unfold scrX; omega) (by omega) (by omega)), rm.of (f _ _ (by omega) (by unfold scrM; omega) (by unfold inM; omega) (by omega)) (fun j => f _ _ (by omega) (by unfold scrM; omega) (by unfold inM; omega) (by omega)), u.cong (e _ _ (by omega) (by unfold scrX; omega) (by omega) (by omega)) (fun j => e _ _ (by omega) (by unfold scrX; omega) (by omega) (by omega)), ⟨(f _ _ (by omega) (by unfold scrM; omega) (by unfold inM; omega) (by omega)).trans t.1, t.2⟩, fun j hj => (f _ _ (by omega) (by unfold scrM; omega) (by unfold inM; omega) (by omega)).trans (tp j hj), fun j h1 h6 => ?_, im.cong (e _ _ (by omega) (by unfold scrX; omega) (by omega) (by omega)) (f _ _ (by omega) (by unfold scrM; omega) (by unfold inM; omega) (by omega)) (fun a j g1 g2 => e _ _ (by omega) (by unfold scrX; omega) (by omega) (by omega)) (fun j hj => f _ _ (by omega) (by unfold scrM; omega) (by unfold inM; omega) (by omega))⟩
  rw [s2 26 j (by unfold scrM; omega) (by unfold inM; omega), s1.hi 26 j (by omega), s2.lo 22 j (by omega), s1 22 j (by unfold scrX; omega) (by omega), rf j h1 h6]
  by_cases h : j = k ∧ ¬ k = 0
  · rw [if_pos ⟨rfl, h⟩, if_pos ⟨rfl, h⟩]
  · rw [if_neg (fun z => h z.2), if_neg (fun z => h z.2)]
/-! what the calls that change the corridor leave is good again -/
def GBZ (K : Mem) (n : Nat) : Prop := Gd K n ∧ BK 999 K ∧ KZ K
set_option maxRecDepth 100000 in
theorem okM_ix {m : Int32} (h : okM m) : ix m < 2 := by
  obtain ⟨i, hi, e⟩ := okM_iff.mp h
  rw [e, show ix (nI i) = i from nIc (by omega)]
  exact hi
set_option maxRecDepth 100000 in
theorem GBZ.fresh {K : Mem} {n : Nat} (g : Gd K n) (b : BK 999 K) : GBZ (freshK K) n := by
  unfold freshK
  exact ⟨(g.u (by omega)).u (by omega), (b.u (by omega)).u (by omega), by rw [up_j (by omega), up_at], up_at⟩
set_option maxRecDepth 100000 in
theorem flip_g {K : Mem} {n f : Nat} {r : Int32} (hf : f = 1 ∨ f = 2) (h : GBZ K n) : GBZ (F_flip K n f r).2 n := by
  unfold F_flip
  split
  · next q =>
    refine ⟨h.1.flip hf (okR_ix h.1.2.1 q), h.2.1.u (by omega), ?_⟩
    unfold KZ flipK
    dsimp only
    rw [up_j (by omega), up_j (by omega)]
    exact h.2.2
  · exact h
set_option maxRecDepth 100000 in
theorem turn_g {K : Mem} {n : Nat} {r kd f : Int32} (h : GBZ K n) : GBZ (F_turn K n r kd f).2 n := by
  unfold F_turn
  split
  · split
    · split
      · exact h
      · split
        · exact h
        · next q1 q2 =>
          refine ⟨(h.1.u (by omega)).u (by omega), (h.2.1.u (by omega)).fig ?_, ?_⟩
          · unfold isT
            rw [ltT] at q1 q2
            have z0 : (0 : Int32).toInt = 0 := by decide
            have z9 : (9 : Int32).toInt = 9 := by decide
            omega
          · unfold KZ
            dsimp only
            rw [up_k (by omega), up_k (by omega), up_k (by omega), up_k (by omega)]
            exact h.2.2
    · exact h
  · exact h
set_option maxRecDepth 100000 in
theorem places_g {K : Mem} {n : Nat} {m p l : Int32} (h : GBZ K n) : GBZ (F_places K n m p l).2 n := by
  unfold F_places
  split
  · next q =>
    split
    · exact h
    · split
      · exact h
      · refine ⟨(h.1.p3 (isPl_of h.1.2.1 q.2)).u (by omega), (h.2.1.u (by omega)).u (by omega), ?_⟩
        unfold KZ
        dsimp only
        rw [up_k (by omega), up_k (by omega), up_k (by omega), up_k (by omega)]
        exact h.2.2
  · exact h
set_option maxRecDepth 100000 in
theorem stays_g {K : Mem} {n : Nat} {m t : Int32} (h : GBZ K n) : GBZ (F_stays K m t).2 n := by
  unfold F_stays
  split
  · next q =>
    split
    · exact h
    · split
      · exact h
      · split
        · exact h
        · next q1 q2 q3 =>
          refine ⟨h.1.pass, ?_, ?_⟩
          · unfold passK
            refine h.2.1.clk ?_
            have b := h.2.1.2 (ix m) (okM_ix q)
            unfold isT at b ⊢
            rw [ltT] at q1 q2 q3
            have z1 : (1 : Int32).toInt = 1 := by decide
            have z6 : (60 : Int32).toInt = 60 := by decide
            have z9 : (999 : Int32).toInt = 999 := by decide
            rw [addT (by omega) (by omega)] at q3 ⊢
            omega
          · unfold KZ
            dsimp only
            unfold passK
            rw [up_k (by omega), up_k (by omega)]
            exact h.2.2
  · exact h
set_option maxRecDepth 100000 in
theorem visits_g {K : Mem} {n : Nat} {m r : Int32} (h : GBZ K n) : GBZ (F_visits K n m r).2 n := by
  unfold F_visits
  split
  · next q =>
    split
    · exact h
    · next q2 =>
      have hm := okM_ix q.1
      have hr := okR_ix h.1.2.1 q.2
      have lm := later_m (K := (visitK K (ix m) (ix r)).2) hm h.2.1 (fun m' hm' hmi => visitK_oc hm hmi)
      exact GBZ.fresh (h.1.visit hr) ((h.2.1.visit h.1 hm hr (by omega)).cut (fun z => q2 (lm.mp z)))
  · exact h
set_option maxRecDepth 100000 in
theorem both_g {K : Mem} {n : Nat} {r : Int32} (h : GBZ K n) : GBZ (F_both K n r).2 n := by
  unfold F_both
  split
  · next q =>
    split
    · exact h
    · next q2 =>
      have hr := okR_ix h.1.2.1 q
      exact GBZ.fresh (h.1.both hr) ((h.2.1.both h.1 hr (by omega)).cut q2)
  · exact h
set_option maxRecDepth 100000 in
theorem downK_o {K : Mem} {m m' : Nat} (h : ¬ m' = m) : downK K m 5 m' = K 5 m' := by
  unfold downK walkK passK
  rw [up_k (by omega), up_j h, up_k (by omega), up_j h]
set_option maxRecDepth 100000 in
theorem down_g {K : Mem} {n : Nat} {m : Int32} (h : GBZ K n) : GBZ (F_down K m).2 n := by
  unfold F_down
  split
  · next q =>
    split
    · exact h
    · next q2 =>
      have hm := okM_ix q
      have lm := later_m (K := downK K (ix m)) hm h.2.1 (fun m' hm' hmi => downK_o hmi)
      exact GBZ.fresh h.1.down ((h.2.1.down hm h.1 (by omega)).cut (fun z => q2 (lm.mp z)))
  · exact h
set_option maxRecDepth 100000 in
theorem RepM.re {S S' K : Mem} {d : Int32} (R : RepM S K d) (h : ∀ a j, inM a j → ¬ (a = 25 ∧ j = 22) → S' a j = S a j) : ∃ d', RepM S' K d' := ⟨S' 25 22 - K 0 4, fun a j hi => by
  by_cases q : a = 25 ∧ j = 22
  · obtain ⟨rfl, rfl⟩ := q
    rw [mv25, if_neg (by omega), if_neg (by omega), Int32.sub_add_cancel]
  · rw [h a j hi q, R a j hi]
    unfold inM at hi
    rcases hi with ⟨rfl, hi⟩ | ⟨rfl | rfl | rfl | rfl, hb⟩ | ⟨hb, hj⟩
    · rw [mv25, mv25]
      rcases hi with rfl | rfl | rfl
      · rw [if_pos rfl, if_pos rfl]
      · rw [if_neg (by omega), if_pos rfl, if_neg (by omega), if_pos rfl]
      · omega
    · rw [mv27, mv27]
    · rw [mv28, mv28]
    · rw [mv29, mv29]
    · rw [mv30, mv30]
    · rw [mv31 _ _ _ (by omega), mv31 _ _ _ (by omega)]⟩
/-- letters and rows aside, and scratch -/
def exM (a j : Nat) : Prop := scrX a ∨ scrM a j ∨ a = 20 ∨ (a = 19 ∧ j = 1) ∨ a = 34 ∨ (a = 25 ∧ j = 13) ∨ a = 21 ∨ (a = 0 ∧ j = 6) ∨ a = 39 ∨ (a = 25 ∧ j = 25)
set_option maxRecDepth 100000 in
theorem RD.misc {S S2 K : Mem} {n q l q' l' : Nat} {row lt row' lt' : Nat → Int32} (D : RD S K n row q lt l) (o : ∀ a j, ¬ exM a j → S2 a j = S a j) (r : XR S2 row' q') (rm : XRM S2 row' q') (u : XU S2 lt' l') (t : XTM S2 l') (tp : ∀ j, j < l' → S2 34 j = lt' j) : Rel S2 := by
  obtain ⟨c, ⟨⟨d, R⟩, g, z⟩, b, _, _, _, _, _, rf, im⟩ := D
  have o' : ∀ a j, (a = 0 ∧ j = 3) ∨ (1 ≤ a ∧ a ≤ 6) ∨ (13 ≤ a ∧ a ≤ 18) ∨ a = 22 ∨ a = 26 ∨ (a = 25 ∧ j = 18) ∨ (a = 38 ∧ j < 39) → S2 a j = S a j := fun a j h => o a j (by unfold exM scrX scrM; omega)
  exact ⟨K, n, row', q', lt', l', ⟨c.1.cong (fun a j g1 g2 => o' a j (by omega)), c.2⟩, ⟨R.re (fun a j hi hn => o a j (by unfold exM scrX scrM; unfold inM at hi; omega)), g, z⟩, b, r, rm, u, t, tp, fun j h1 h6 => by rw [o' 26 j (by omega), o' 22 j (by omega), rf j h1 h6], im.cong (o' _ _ (by omega)) (o' _ _ (by omega)) (fun a j g1 g2 => o' _ _ (by omega)) (fun j hj => o' _ _ (by omega))⟩
set_option maxRecDepth 100000 in
theorem corr_z {lt : Nat → Int32} {l n : Nat} {K : Mem} (h : KZ K) : KZ (F_corr lt l (n, K)).2.2 := by
  unfold F_corr
  split
  · exact h
  · split
    · exact h
    · exact ⟨rfl, rfl⟩
/-! on from no image -/
set_option maxRecDepth 100000 in
theorem X4_on0 (H : Rules C T) {S : Mem} (h : S 0 3 = 0) {Q : Pst} (h0 : AnsX S (3, -3) Q) : C mX4_on [.ref 0] S Q := by
  refine Rules.go H (by decide) (Nat.le_of_ble_eq_true rfl) ?_
  repeat' (first | (refine Rules.st H okX4_on [] ?_; conv => whnf) | refine br_t (by first | decide | assumption) ?_ | refine br_f (by first | decide | assumption) ?_ | refine br_c (fun _ => ?_) (fun _ => ?_) | refine ⟨by decide, ?_⟩ | refine ⟨by first | assumption | (unfold vp_in; decide) | ((with_reducible (refine vp_in_nI ?_ ?_)) <;> omega), ?_⟩ | fail)
  refine X4_ref H (ScX.rf) (k := 3) (by omega) (by omega) (by decide) (fun S' hS' => ?_)
  repeat' (first | (refine Rules.st H okX4_on [] ?_; conv => whnf) | refine br_t (by first | decide | assumption) ?_ | refine br_f (by first | decide | assumption) ?_ | refine br_c (fun _ => ?_) (fun _ => ?_) | refine ⟨by decide, ?_⟩ | refine ⟨by first | assumption | (unfold vp_in; decide) | ((with_reducible (refine vp_in_nI ?_ ?_)) <;> omega), ?_⟩ | fail)
  exact h0 S' hS'
set_option maxRecDepth 100000 in
theorem X5_on0 (H : Rules C T) {S : Mem} (h : S 25 18 = 0) {Q : Pst} (h0 : AnsM S (3, -3) Q) : C mX5_on [.ref 25] S Q := by
  refine Rules.go H (by decide) (Nat.le_of_ble_eq_true rfl) ?_
  repeat' (first | (refine Rules.st H okX5_on [] ?_; conv => whnf) | refine br_t (by first | decide | assumption) ?_ | refine br_f (by first | decide | assumption) ?_ | refine br_c (fun _ => ?_) (fun _ => ?_) | refine ⟨by decide, ?_⟩ | refine ⟨by first | assumption | (unfold vp_in; decide) | ((with_reducible (refine vp_in_nI ?_ ?_)) <;> omega), ?_⟩ | fail)
  refine X5_no H ScM.rf (k := 3) (by omega) (by omega) (by decide) (fun S' hS' => ?_)
  repeat' (first | (refine Rules.st H okX5_on [] ?_; conv => whnf) | refine br_t (by first | decide | assumption) ?_ | refine br_f (by first | decide | assumption) ?_ | refine br_c (fun _ => ?_) (fun _ => ?_) | refine ⟨by decide, ?_⟩ | refine ⟨by first | assumption | (unfold vp_in; decide) | ((with_reducible (refine vp_in_nI ?_ ?_)) <;> omega), ?_⟩ | fail)
  exact h0 S' hS'
/-- ONE INSTRUCTION OF THE LAW, over any relation that has the rule -/
def stepL (C : Cst) (sc : Option (Nat × (Nat → Int32))) (stops : List Nat) (TL : Nat → Lcs → List Value → Mem → Prop) (pc : Nat) (L : Lcs) (st : List Value) (S : Mem) : Prop := match kL_law pc with
  | none => False
  | some o => exec C sc o L st S (fun v _ => v = some (.int 1)) (fun pc' L' st' S' => stp pc' (Halt (TL pc' L' st' S')) (TL pc' L' st' S') stops)
def RulesL (C : Cst) (sc : Option (Nat × (Nat → Int32))) (TL : Nat → Lcs → List Value → Mem → Prop) : Prop := ∀ (stops : List Nat) (pc : Nat) (L : Lcs) (st : List Value) (S : Mem), stepL C sc stops TL pc L st S → TL pc L st S
end LAW1
