section M35
abbrev Eff : Type := Int32 × Int32 × Bool × Bool
def app (K : Mem) (m r : Nat) (e : Eff) : Mem := fun a j => if a = 3 ∧ j = m then nI (r + 1) else if a = 4 ∧ j = m then e.2.1 else if a = 5 ∧ j = m then e.1 else if a = 0 ∧ j = 1 then (if e.2.2.1 = true then K 0 1 ^^^ (1 <<< (nI r &&& 31)) else K 0 1) else if a = 0 ∧ j = 4 then (if e.2.2.2 = true then K 0 4 + 1 else K 0 4) else K a j
def visE (p l c d0 c0 s0 kd f : Int32) (r : Nat) : Eff :=
  if d0 = 0 ∧ c0 = 0 then
    if (if s0 = 0 then outB kd f (c + absI (p - nI (r + 1)) + 1) else false) = true then
      if l < linenI kd then
        if (if s0 = 0 then outB kd f (c + absI (p - nI (r + 1)) + 1 + (2 * nI (r + 1) + 4)) else false) = true then (c + absI (p - nI (r + 1)) + 1 + (2 * nI (r + 1) + 4) + workI kd f, 6 - linenI kd, true, true)
        else (c + absI (p - nI (r + 1)) + 1 + (2 * nI (r + 1) + 4), 6, false, true)
      else (c + absI (p - nI (r + 1)) + 1 + workI kd f, l - linenI kd, true, false)
    else (c + absI (p - nI (r + 1)) + 1, l, false, false)
  else (c + absI (p - nI (r + 1)), l, false, false)
def vE (K : Mem) (m r : Nat) : Eff := visE (K 3 m) (K 4 m) (K 5 m) (bt (K 0 1) r) (bt (K 0 2) r) (bt (K 0 3) r) (K 1 r) (K 2 r) r

set_option maxRecDepth 100000 in
theorem visitK_app0 {K : Mem} {r : Nat} : (visitK K 0 r).2 = app K 0 r (vE K 0 r) := by
  unfold visitK knockK vE visE
  dsimp only
  by_cases h1 : bt (K 0 1) r = 0 ∧ bt (K 0 2) r = 0
  · refine Eq.trans (congrArg Prod.snd (if_pos h1)) (Eq.trans ?_ (congrArg _ (if_pos h1)).symm)
    by_cases h2 : (if bt (K 0 3) r = 0 then outB (K 1 r) (K 2 r) (K 5 0 + absI (K 3 0 - nI (r + 1)) + 1) else false) = true
    · refine Eq.trans (congrArg Prod.snd (if_pos h2)) (Eq.trans ?_ (congrArg _ (if_pos h2)).symm)
      by_cases h3 : K 4 0 < linenI (K 1 r)
      · refine Eq.trans (congrArg Prod.snd (if_pos h3)) (Eq.trans ?_ (congrArg _ (if_pos h3)).symm)
        by_cases h4 : (if bt (K 0 3) r = 0 then outB (K 1 r) (K 2 r) (K 5 0 + absI (K 3 0 - nI (r + 1)) + 1 + (2 * nI (r + 1) + 4)) else false) = true
        · refine Eq.trans (congrArg Prod.snd (if_pos h4)) (Eq.trans ?_ (congrArg _ (if_pos h4)).symm)
          funext a j
          by_cases a3 : a = 3
          · subst a3
            by_cases jm : j = 0
            · subst jm
              simp [app, walkK, passK, fetchK, cleanK, linK, workK, up]
            · simp [jm, app, walkK, passK, fetchK, cleanK, linK, workK, up]
          · by_cases a4 : a = 4
            · subst a4
              by_cases jm : j = 0
              · subst jm
                simp [app, walkK, passK, fetchK, cleanK, linK, workK, up]
              · simp [jm, app, walkK, passK, fetchK, cleanK, linK, workK, up]
            · by_cases a5 : a = 5
              · subst a5
                by_cases jm : j = 0
                · subst jm
                  simp [app, walkK, passK, fetchK, cleanK, linK, workK, up]
                · simp [jm, app, walkK, passK, fetchK, cleanK, linK, workK, up]
              · by_cases a0 : a = 0
                · subst a0
                  by_cases j1 : j = 1
                  · subst j1
                    simp [app, walkK, passK, fetchK, cleanK, linK, workK, up]
                  · by_cases j4 : j = 4
                    · subst j4
                      simp [app, walkK, passK, fetchK, cleanK, linK, workK, up]
                    · simp [j1, j4, app, walkK, passK, fetchK, cleanK, linK, workK, up]
                · simp [a3, a4, a5, a0, app, walkK, passK, fetchK, cleanK, linK, workK, up]
        · refine Eq.trans (congrArg Prod.snd (if_neg h4)) (Eq.trans ?_ (congrArg _ (if_neg h4)).symm)
          funext a j
          by_cases a3 : a = 3
          · subst a3
            by_cases jm : j = 0
            · subst jm
              simp [app, walkK, passK, fetchK, cleanK, linK, workK, up]
            · simp [jm, app, walkK, passK, fetchK, cleanK, linK, workK, up]
          · by_cases a4 : a = 4
            · subst a4
              by_cases jm : j = 0
              · subst jm
                simp [app, walkK, passK, fetchK, cleanK, linK, workK, up]
              · simp [jm, app, walkK, passK, fetchK, cleanK, linK, workK, up]
            · by_cases a5 : a = 5
              · subst a5
                by_cases jm : j = 0
                · subst jm
                  simp [app, walkK, passK, fetchK, cleanK, linK, workK, up]
                · simp [jm, app, walkK, passK, fetchK, cleanK, linK, workK, up]
              · by_cases a0 : a = 0
                · subst a0
                  by_cases j1 : j = 1
                  · subst j1
                    simp [app, walkK, passK, fetchK, cleanK, linK, workK, up]
                  · by_cases j4 : j = 4
                    · subst j4
                      simp [app, walkK, passK, fetchK, cleanK, linK, workK, up]
                    · simp [j1, j4, app, walkK, passK, fetchK, cleanK, linK, workK, up]
                · simp [a3, a4, a5, a0, app, walkK, passK, fetchK, cleanK, linK, workK, up]
      · refine Eq.trans (congrArg Prod.snd (if_neg h3)) (Eq.trans ?_ (congrArg _ (if_neg h3)).symm)
        funext a j
        by_cases a3 : a = 3
        · subst a3
          by_cases jm : j = 0
          · subst jm
            simp [app, walkK, passK, fetchK, cleanK, linK, workK, up]
          · simp [jm, app, walkK, passK, fetchK, cleanK, linK, workK, up]
        · by_cases a4 : a = 4
          · subst a4
            by_cases jm : j = 0
            · subst jm
              simp [app, walkK, passK, fetchK, cleanK, linK, workK, up]
            · simp [jm, app, walkK, passK, fetchK, cleanK, linK, workK, up]
          · by_cases a5 : a = 5
            · subst a5
              by_cases jm : j = 0
              · subst jm
                simp [app, walkK, passK, fetchK, cleanK, linK, workK, up]
              · simp [jm, app, walkK, passK, fetchK, cleanK, linK, workK, up]
            · by_cases a0 : a = 0
              · subst a0
                by_cases j1 : j = 1
                · subst j1
                  simp [app, walkK, passK, fetchK, cleanK, linK, workK, up]
                · by_cases j4 : j = 4
                  · subst j4
                    simp [app, walkK, passK, fetchK, cleanK, linK, workK, up]
                  · simp [j1, j4, app, walkK, passK, fetchK, cleanK, linK, workK, up]
              · simp [a3, a4, a5, a0, app, walkK, passK, fetchK, cleanK, linK, workK, up]
    · refine Eq.trans (congrArg Prod.snd (if_neg h2)) (Eq.trans ?_ (congrArg _ (if_neg h2)).symm)
      funext a j
      by_cases a3 : a = 3
      · subst a3
        by_cases jm : j = 0
        · subst jm
          simp [app, walkK, passK, fetchK, cleanK, linK, workK, up]
        · simp [jm, app, walkK, passK, fetchK, cleanK, linK, workK, up]
      · by_cases a4 : a = 4
        · subst a4
          by_cases jm : j = 0
          · subst jm
            simp [app, walkK, passK, fetchK, cleanK, linK, workK, up]
          · simp [jm, app, walkK, passK, fetchK, cleanK, linK, workK, up]
        · by_cases a5 : a = 5
          · subst a5
            by_cases jm : j = 0
            · subst jm
              simp [app, walkK, passK, fetchK, cleanK, linK, workK, up]
            · simp [jm, app, walkK, passK, fetchK, cleanK, linK, workK, up]
          · by_cases a0 : a = 0
            · subst a0
              by_cases j1 : j = 1
              · subst j1
                simp [app, walkK, passK, fetchK, cleanK, linK, workK, up]
              · by_cases j4 : j = 4
                · subst j4
                  simp [app, walkK, passK, fetchK, cleanK, linK, workK, up]
                · simp [j1, j4, app, walkK, passK, fetchK, cleanK, linK, workK, up]
            · simp [a3, a4, a5, a0, app, walkK, passK, fetchK, cleanK, linK, workK, up]
  · refine Eq.trans (congrArg Prod.snd (if_neg h1)) (Eq.trans ?_ (congrArg _ (if_neg h1)).symm)
    funext a j
    by_cases a3 : a = 3
    · subst a3
      by_cases jm : j = 0
      · subst jm
        simp [app, walkK, passK, fetchK, cleanK, linK, workK, up]
      · simp [jm, app, walkK, passK, fetchK, cleanK, linK, workK, up]
    · by_cases a4 : a = 4
      · subst a4
        by_cases jm : j = 0
        · subst jm
          simp [app, walkK, passK, fetchK, cleanK, linK, workK, up]
        · simp [jm, app, walkK, passK, fetchK, cleanK, linK, workK, up]
      · by_cases a5 : a = 5
        · subst a5
          by_cases jm : j = 0
          · subst jm
            simp [app, walkK, passK, fetchK, cleanK, linK, workK, up]
          · simp [jm, app, walkK, passK, fetchK, cleanK, linK, workK, up]
        · by_cases a0 : a = 0
          · subst a0
            by_cases j1 : j = 1
            · subst j1
              simp [app, walkK, passK, fetchK, cleanK, linK, workK, up]
            · by_cases j4 : j = 4
              · subst j4
                simp [app, walkK, passK, fetchK, cleanK, linK, workK, up]
              · simp [j1, j4, app, walkK, passK, fetchK, cleanK, linK, workK, up]
          · simp [a3, a4, a5, a0, app, walkK, passK, fetchK, cleanK, linK, workK, up]
set_option maxRecDepth 100000 in
theorem visitK_app1 {K : Mem} {r : Nat} : (visitK K 1 r).2 = app K 1 r (vE K 1 r) := by
  unfold visitK knockK vE visE
  dsimp only
  by_cases h1 : bt (K 0 1) r = 0 ∧ bt (K 0 2) r = 0
  · refine Eq.trans (congrArg Prod.snd (if_pos h1)) (Eq.trans ?_ (congrArg _ (if_pos h1)).symm)
    by_cases h2 : (if bt (K 0 3) r = 0 then outB (K 1 r) (K 2 r) (K 5 1 + absI (K 3 1 - nI (r + 1)) + 1) else false) = true
    · refine Eq.trans (congrArg Prod.snd (if_pos h2)) (Eq.trans ?_ (congrArg _ (if_pos h2)).symm)
      by_cases h3 : K 4 1 < linenI (K 1 r)
      · refine Eq.trans (congrArg Prod.snd (if_pos h3)) (Eq.trans ?_ (congrArg _ (if_pos h3)).symm)
        by_cases h4 : (if bt (K 0 3) r = 0 then outB (K 1 r) (K 2 r) (K 5 1 + absI (K 3 1 - nI (r + 1)) + 1 + (2 * nI (r + 1) + 4)) else false) = true
        · refine Eq.trans (congrArg Prod.snd (if_pos h4)) (Eq.trans ?_ (congrArg _ (if_pos h4)).symm)
          funext a j
          by_cases a3 : a = 3
          · subst a3
            by_cases jm : j = 1
            · subst jm
              simp [app, walkK, passK, fetchK, cleanK, linK, workK, up]
            · simp [jm, app, walkK, passK, fetchK, cleanK, linK, workK, up]
          · by_cases a4 : a = 4
            · subst a4
              by_cases jm : j = 1
              · subst jm
                simp [app, walkK, passK, fetchK, cleanK, linK, workK, up]
              · simp [jm, app, walkK, passK, fetchK, cleanK, linK, workK, up]
            · by_cases a5 : a = 5
              · subst a5
                by_cases jm : j = 1
                · subst jm
                  simp [app, walkK, passK, fetchK, cleanK, linK, workK, up]
                · simp [jm, app, walkK, passK, fetchK, cleanK, linK, workK, up]
              · by_cases a0 : a = 0
                · subst a0
                  by_cases j1 : j = 1
                  · subst j1
                    simp [app, walkK, passK, fetchK, cleanK, linK, workK, up]
                  · by_cases j4 : j = 4
                    · subst j4
                      simp [app, walkK, passK, fetchK, cleanK, linK, workK, up]
                    · simp [j1, j4, app, walkK, passK, fetchK, cleanK, linK, workK, up]
                · simp [a3, a4, a5, a0, app, walkK, passK, fetchK, cleanK, linK, workK, up]
        · refine Eq.trans (congrArg Prod.snd (if_neg h4)) (Eq.trans ?_ (congrArg _ (if_neg h4)).symm)
          funext a j
          by_cases a3 : a = 3
          · subst a3
            by_cases jm : j = 1
            · subst jm
              simp [app, walkK, passK, fetchK, cleanK, linK, workK, up]
            · simp [jm, app, walkK, passK, fetchK, cleanK, linK, workK, up]
          · by_cases a4 : a = 4
            · subst a4
              by_cases jm : j = 1
              · subst jm
                simp [app, walkK, passK, fetchK, cleanK, linK, workK, up]
              · simp [jm, app, walkK, passK, fetchK, cleanK, linK, workK, up]
            · by_cases a5 : a = 5
              · subst a5
                by_cases jm : j = 1
                · subst jm
                  simp [app, walkK, passK, fetchK, cleanK, linK, workK, up]
                · simp [jm, app, walkK, passK, fetchK, cleanK, linK, workK, up]
              · by_cases a0 : a = 0
                · subst a0
                  by_cases j1 : j = 1
                  · subst j1
                    simp [app, walkK, passK, fetchK, cleanK, linK, workK, up]
                  · by_cases j4 : j = 4
                    · subst j4
                      simp [app, walkK, passK, fetchK, cleanK, linK, workK, up]
                    · simp [j1, j4, app, walkK, passK, fetchK, cleanK, linK, workK, up]
                · simp [a3, a4, a5, a0, app, walkK, passK, fetchK, cleanK, linK, workK, up]
      · refine Eq.trans (congrArg Prod.snd (if_neg h3)) (Eq.trans ?_ (congrArg _ (if_neg h3)).symm)
        funext a j
        by_cases a3 : a = 3
        · subst a3
          by_cases jm : j = 1
          · subst jm
            simp [app, walkK, passK, fetchK, cleanK, linK, workK, up]
          · simp [jm, app, walkK, passK, fetchK, cleanK, linK, workK, up]
        · by_cases a4 : a = 4
          · subst a4
            by_cases jm : j = 1
            · subst jm
              simp [app, walkK, passK, fetchK, cleanK, linK, workK, up]
            · simp [jm, app, walkK, passK, fetchK, cleanK, linK, workK, up]
          · by_cases a5 : a = 5
            · subst a5
              by_cases jm : j = 1
              · subst jm
                simp [app, walkK, passK, fetchK, cleanK, linK, workK, up]
              · simp [jm, app, walkK, passK, fetchK, cleanK, linK, workK, up]
            · by_cases a0 : a = 0
              · subst a0
                by_cases j1 : j = 1
                · subst j1
                  simp [app, walkK, passK, fetchK, cleanK, linK, workK, up]
                · by_cases j4 : j = 4
                  · subst j4
                    simp [app, walkK, passK, fetchK, cleanK, linK, workK, up]
                  · simp [j1, j4, app, walkK, passK, fetchK, cleanK, linK, workK, up]
              · simp [a3, a4, a5, a0, app, walkK, passK, fetchK, cleanK, linK, workK, up]
    · refine Eq.trans (congrArg Prod.snd (if_neg h2)) (Eq.trans ?_ (congrArg _ (if_neg h2)).symm)
      funext a j
      by_cases a3 : a = 3
      · subst a3
        by_cases jm : j = 1
        · subst jm
          simp [app, walkK, passK, fetchK, cleanK, linK, workK, up]
        · simp [jm, app, walkK, passK, fetchK, cleanK, linK, workK, up]
      · by_cases a4 : a = 4
        · subst a4
          by_cases jm : j = 1
          · subst jm
            simp [app, walkK, passK, fetchK, cleanK, linK, workK, up]
          · simp [jm, app, walkK, passK, fetchK, cleanK, linK, workK, up]
        · by_cases a5 : a = 5
          · subst a5
            by_cases jm : j = 1
            · subst jm
              simp [app, walkK, passK, fetchK, cleanK, linK, workK, up]
            · simp [jm, app, walkK, passK, fetchK, cleanK, linK, workK, up]
          · by_cases a0 : a = 0
            · subst a0
              by_cases j1 : j = 1
              · subst j1
                simp [app, walkK, passK, fetchK, cleanK, linK, workK, up]
              · by_cases j4 : j = 4
                · subst j4
                  simp [app, walkK, passK, fetchK, cleanK, linK, workK, up]
                · simp [j1, j4, app, walkK, passK, fetchK, cleanK, linK, workK, up]
            · simp [a3, a4, a5, a0, app, walkK, passK, fetchK, cleanK, linK, workK, up]
  · refine Eq.trans (congrArg Prod.snd (if_neg h1)) (Eq.trans ?_ (congrArg _ (if_neg h1)).symm)
    funext a j
    by_cases a3 : a = 3
    · subst a3
      by_cases jm : j = 1
      · subst jm
        simp [app, walkK, passK, fetchK, cleanK, linK, workK, up]
      · simp [jm, app, walkK, passK, fetchK, cleanK, linK, workK, up]
    · by_cases a4 : a = 4
      · subst a4
        by_cases jm : j = 1
        · subst jm
          simp [app, walkK, passK, fetchK, cleanK, linK, workK, up]
        · simp [jm, app, walkK, passK, fetchK, cleanK, linK, workK, up]
      · by_cases a5 : a = 5
        · subst a5
          by_cases jm : j = 1
          · subst jm
            simp [app, walkK, passK, fetchK, cleanK, linK, workK, up]
          · simp [jm, app, walkK, passK, fetchK, cleanK, linK, workK, up]
        · by_cases a0 : a = 0
          · subst a0
            by_cases j1 : j = 1
            · subst j1
              simp [app, walkK, passK, fetchK, cleanK, linK, workK, up]
            · by_cases j4 : j = 4
              · subst j4
                simp [app, walkK, passK, fetchK, cleanK, linK, workK, up]
              · simp [j1, j4, app, walkK, passK, fetchK, cleanK, linK, workK, up]
          · simp [a3, a4, a5, a0, app, walkK, passK, fetchK, cleanK, linK, workK, up]
set_option maxRecDepth 100000 in
theorem visitK_app {K : Mem} {m r : Nat} (hm : m < 2) : (visitK K m r).2 = app K m r (vE K m r) := by
  rcases (show m = 0 ∨ m = 1 by omega) with rfl | rfl
  · exact visitK_app0
  · exact visitK_app1
set_option maxRecDepth 100000 in
theorem app_b1 {K : Mem} {m r q : Nat} {e : Eff} (hr : r < 8) (hq : q < 8) (h : ¬ q = r) : bt (app K m r e 0 1) q = bt (K 0 1) q := by
  have e1 : app K m r e 0 1 = if e.2.2.1 = true then K 0 1 ^^^ (1 <<< (nI r &&& 31)) else K 0 1 := by simp [app]
  rw [e1]
  split
  · rw [bt_xor _ hr hq, if_neg h]
  · rfl
set_option maxRecDepth 100000 in
theorem app_v {K : Mem} {r q : Nat} {e : Eff} {m m' : Nat} (hr : r < 8) (hq : q < 8) (h : ¬ q = r) (hm : ¬ m' = m) : vE (app K m r e) m' q = vE K m' q := by
  unfold vE
  rw [app_b1 hr hq h]
  have e3 : app K m r e 3 m' = K 3 m' := by simp [app, hm]
  have e4 : app K m r e 4 m' = K 4 m' := by simp [app, hm]
  have e5 : app K m r e 5 m' = K 5 m' := by simp [app, hm]
  have e02 : app K m r e 0 2 = K 0 2 := by simp [app]
  have e03 : app K m r e 0 3 = K 0 3 := by simp [app]
  have e1 : app K m r e 1 q = K 1 q := by simp [app]
  have e2 : app K m r e 2 q = K 2 q := by simp [app]
  rw [e3, e4, e5, e02, e03, e1, e2]
set_option maxRecDepth 100000 in
theorem app_c {K : Mem} {r q m m' : Nat} {e e' : Eff} (hm : ¬ m' = m) : app (app K m r e) m' q e' = app (app K m' q e') m r e := by
  have hm2 : ¬ m = m' := fun z => hm z.symm
  funext a j
  by_cases a3 : a = 3
  · subst a3
    by_cases j1 : j = m
    · subst j1
      simp [app, hm2]
    · by_cases j2 : j = m'
      · subst j2
        simp [app, hm]
      · simp [app, j1, j2]
  · by_cases a4 : a = 4
    · subst a4
      by_cases j1 : j = m
      · subst j1
        simp [app, hm2]
      · by_cases j2 : j = m'
        · subst j2
          simp [app, hm]
        · simp [app, j1, j2]
    · by_cases a5 : a = 5
      · subst a5
        by_cases j1 : j = m
        · subst j1
          simp [app, hm2]
        · by_cases j2 : j = m'
          · subst j2
            simp [app, hm]
          · simp [app, j1, j2]
      · by_cases a0 : a = 0
        · subst a0
          by_cases j1 : j = 1
          · subst j1
            have x3 : ∀ a b c : Int32, a ^^^ b ^^^ c = a ^^^ c ^^^ b := fun a b c => by rw [Int32.xor_assoc, Int32.xor_comm b, ← Int32.xor_assoc]
            simp only [app]
            simp
            split <;> split <;> first | rfl | exact x3 _ _ _
          · by_cases j4 : j = 4
            · subst j4
              simp only [app]
              simp
              split <;> split <;> rfl
            · simp [app, j1, j4]
        · simp [app, a3, a4, a5, a0]
set_option maxRecDepth 100000 in
theorem visit_comm {K : Mem} {r q m m' : Nat} (hr : r < 8) (hq : q < 8) (h : ¬ q = r) (hm : m < 2) (hm' : m' < 2) (hmm : ¬ m' = m) : (visitK (visitK K m r).2 m' q).2 = (visitK (visitK K m' q).2 m r).2 := by
  rw [visitK_app hm', visitK_app (K := (visitK K m' q).2) hm, visitK_app (K := K) hm, visitK_app (K := K) hm', app_v hr hq h hmm, app_v hq hr (fun z => h z.symm) (fun z => hmm z.symm)]
  exact app_c hmm
set_option maxRecDepth 100000 in
theorem round_comm {set : Int32} {n m m' q : Nat} (h8 : n ≤ 8) (hm : m < 2) (hm' : m' < 2) (hmm : ¬ m' = m) (hq : q < n) : ∀ (k i : Nat) (K : Mem), i + k = n → q < i → (visitK (roundK m set k i K) m' q).2 = roundK m set k i (visitK K m' q).2
  | 0, _, _, _, _ => rfl
  | k + 1, i, K, hi, hqi => by
    unfold roundK
    rw [round_comm h8 hm hm' hmm hq k (i + 1) _ (by omega) (by omega)]
    split
    · rfl
    · rw [visit_comm (by omega) (by omega) (by omega) hm hm' hmm]
/-- each told room's own maid visits it -/
def shaK (set hers : Int32) : Nat → Nat → Mem → Mem
  | 0, _, K => K
  | k + 1, i, K => shaK set hers k (i + 1) (if bt set i = 1 then (visitK K (ix (bt hers i)) i).2 else K)
set_option maxRecDepth 100000 in
theorem sha_eq {set his hers : Int32} {n : Nat} (h8 : n ≤ 8) (hh : ∀ i, i < n → (bt set i = 1 → bt his i = 1 - bt hers i) ∧ (¬ bt set i = 1 → bt his i = 0 ∧ bt hers i = 0)) : ∀ (k i : Nat) (K : Mem), i + k = n → shaK set hers k i K = roundK 1 hers k i (roundK 0 his k i K)
  | 0, _, _, _ => rfl
  | k + 1, i, K, hi => by
    obtain ⟨h1, h2⟩ := hh i (by omega)
    have eS : ∀ m s K, roundK m s (k + 1) i K = roundK m s k (i + 1) (if bt s i = 0 then K else (visitK K m i).2) := fun _ _ _ => rfl
    unfold shaK
    rw [eS, eS]
    rw [sha_eq h8 hh k (i + 1) _ (by omega)]
    by_cases q : bt set i = 1
    · have h1 := h1 q
      rw [if_pos q]
      rcases bt_2 hers i with g | g
      · rw [g] at h1 ⊢
        rw [if_pos rfl, h1, if_neg (by decide)]
        rfl
      · rw [g] at h1 ⊢
        rw [if_neg (by decide), h1, if_pos (by decide), round_comm h8 (by omega) (by omega) (by omega) (show i < n by omega) k (i + 1) K (by omega) (by omega)]
        rfl
    · obtain ⟨g1, g2⟩ := h2 q
      rw [if_neg q, g1, g2, if_pos rfl, if_pos rfl]
end M35
