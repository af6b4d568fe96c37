theorem cnd_inv {b : Bool} {A : Prop} (h : cond b A False) : b = true ∧ A := by
  cases b with
  | false => exact h.elim
  | true => exact ⟨rfl, h⟩
theorem ptk_inv {a b e : Nat} (h : ptk a b e = true) {C : String} {T : u_T} {N : Nat} (hc : vwCl[a]? = some (C, T, N)) : (T b).2.2.2 = false ∧ parseFieldDescriptor (T b).2.2.1 = some (tyE e) := by
  unfold ptk at h
  rw [hc] at h
  exact of_decide_eq_true h
theorem bo_narrow {e : Nat} {x : Int32} (h : ¬ e = 0 → x = 0 ∨ x = 1) : narrow (tyE e) (.int x) = .int x := by
  cases e with
  | zero => rfl
  | succ e => rcases h (by omega) with rfl | rfl <;> rfl
theorem bo_fits {e : Nat} {x : Int32} (h : ¬ e = 0 → x = 0 ∨ x = 1) : fits (tyE e) (.int x) = true := by
  cases e with
  | zero => rfl
  | succ e => rcases h (by omega) with rfl | rfl <;> rfl
theorem cel_i {ad : Nat → Nat} {f : Nat → Int32} {ts : List (Option Nat)} {b : Nat} (h : ts[b]? = some none) : (celf ad f ts)[b]? = some (.int (f b)) := by
  have hb := (List.getElem?_eq_some_iff.mp h).1
  unfold celf
  rw [List.getElem?_map, List.getElem?_range hb]
  simp [h]
theorem cel_r {ad : Nat → Nat} {f : Nat → Int32} {ts : List (Option Nat)} {b t : Nat} (h : ts[b]? = some (some t)) : (celf ad f ts)[b]? = some (.ref (ad t)) := by
  have hb := (List.getElem?_eq_some_iff.mp h).1
  unfold celf
  rw [List.getElem?_map, List.getElem?_range hb]
  simp [h]
theorem cel_l {ad : Nat → Nat} {f : Nat → Int32} {ts : List (Option Nat)} {b : Nat} {r : Option Nat} (h : ts[b]? = some r) : b < (celf ad f ts).length := by
  have hb := (List.getElem?_eq_some_iff.mp h).1
  unfold celf
  simpa using hb
theorem cel_set {cA : ClassId} {ad : Nat → Nat} {f : Nat → Int32} {ci : Nat} {ts : List (Option Nat)} {b : Nat} {x : Int32} (h : ts[b]? = some none) : cel cA ad (upd f b x) (.inr (ci, ts)) = .inr (ci, (celf ad f ts).set b (.int x)) := by
  have key : celf ad (upd f b x) ts = (celf ad f ts).set b (.int x) := by
    apply List.ext_getElem?
    intro i
    have hb := (List.getElem?_eq_some_iff.mp h).1
    by_cases hi : i = b
    · subst hi
      rw [List.getElem?_set_self (cel_l h), cel_i h]
      simp [upd]
    · rw [List.getElem?_set_ne (Ne.symm hi)]
      unfold celf
      rw [List.getElem?_map, List.getElem?_map]
      by_cases hr : i < ts.length
      · rw [List.getElem?_range hr]
        simp [upd, hi]
      · rw [List.getElem?_eq_none (by simp; omega)]; rfl
  unfold cel
  rw [← key]
section SIMC
variable {p : Program} {l : Launch} {e : Env} {R : Room} {s : State} {m : MethodId} {args : Array Value} {below : List Frame} {meth : Method} {c : Code} {cells slots : Nat} {Z : State → Prop} {dC : Nat → ClassId} {dI : Nat → Nat → Nat} {cA : ClassId} {ad : Nat → Nat} {A : Nat → Prop}
/-- behind a call: the world that came back, under the caller's frame -/
theorem call_back {S S' : Mem} {H H1 : Heap} {t : State} (hFc : ∀ q, va_A (wld cA ad S) H.size q → A q) (ht : t.heap = H1) (hB : BX dC dI cA ad (va_A (wld cA ad S) H.size) S' t) : va_P (dC, dI) vwCl (wld cA ad S') H1 ∧ va_D A (wld cA ad S') := by
  obtain ⟨h1, -, h3⟩ := hB
  exact ⟨by rw [← ht]; exact h1, h3.weaken fun k q _ h => hFc _ h⟩
set_option maxHeartbeats 4000000 in
theorem sim_call {M x a d pc : Nat} {nx : Nat → Lcs → List Value → Mem → Prop} (hx : p.tables.exec = Jvm.exec) (hb : c.code = mB M) (hml : c.maxLocals = mL M) (hown : s.vm.findClass (cN (mO M)) = some m.cls) (hts : ∀ w ∈ Wt, w.before args s = true)
    (hK : va_K (dC, dI) vwCl [(cA, .int)] s) (hA : ∀ q, s.heap.size ≤ q → A q) (hR1 : mF M ≤ R.frames) (hR2 : mQ M ≤ R.locals) (hR3 : cells ≤ R.cells) (hR4 : slots ≤ R.slots)
    (hnx : ∀ pc L st S, nx pc L st S → Wd p l e R s m args below meth c cells slots Z dC dI cA ad A (mL M) pc L st S)
    (hlk : clk[d]? = some (mO M, x, a)) (hin : a ∈ mks) (hf1 : mF a + 1 ≤ mF M) (hf2 : 19 + mL a + mQ a ≤ mQ M) {as r st : List Value} {L : Lcs} {S : Mem}
    (hkind : (mS a = false ∧ ∃ (q : Nat) (bs : List Value), as = .ref q :: bs ∧ cls q = some (ciO (mO a)) ∧ decode (mB M) pc = .ok (.invokevirtual x, 3)) ∨ (mS a = true ∧ decode (mB M) pc = .ok (.invokestatic x, 3)))
    (htk : tk (cond (mS a) (mA a) (mA a + 1)) [] st = some (as, r)) (hsl : sle 4 r = true) (h : OK a as S fun v S' => nx (pc + 3) L (rp v r) S')
    (H : Heap) (locs : List Loc) (ls : Array Slot) (hP : va_P (dC, dI) vwCl (wld cA ad S) H) (hD : va_D A (wld cA ad S)) (hS : va_S A s.heap H locs) (hl : lvL ad ls (mL M) L) : W p l e R s m args below meth c H locs cells slots Z (F0 m pc ls (st.map (tv ad))) := by
  obtain ⟨hcode, hkw, hini, hsel, hcls, hpl, hpd⟩ := mo_ok a hin
  have hC : CallB R s args (cN (mO M)) x (mY a) (mB a) (mL a) (mR a) (mW a) ({ frames := mF a, cells := 0, slots := 0, locals := mQ a }) 0 0 (mA a) :=
    callB_of (mA a) hts (Wt_good (Wt_code hin)) rfl rfl rfl (hts _ hini) (hts _ (cl_ok _ (List.mem_of_getElem? hlk))) ⟨hpl.1.1, hpl.1.2, hpd⟩ ⟨Nat.le_trans hf1 hR1, (show 8 + (mL a + 11) + mQ a ≤ R.locals by omega)⟩
  have hM := h l dC dI cA ad H.size
  obtain ⟨hd1, e1, e2, e3⟩ := tk_inv _ _ _ _ _ htk
  rw [List.append_nil] at e1
  subst e1
  have hFc : ∀ q, va_A (wld cA ad S) H.size q → A q := by
    intro q hq
    rcases hq with ⟨k, e0, hk⟩ | hq
    · exact hD.2 k (q, e0) hk
    · exact hA q (Nat.le_trans hS.1 hq)
  have hU : ∀ (av : List Value) (U : State), U.heap = H → s.WarmedH U.vm → va_Pc av (PX dC dI cA ad H.size S) av.toArray U := fun av U hU hW => ⟨rfl, by rw [hU], by rw [hU]; exact hP, va_K.moved hW.alike hK, hD.weaken (fun _ _ _ _ => trivial)⟩
  have hcat : 2 * (F0 m pc ls (st.map (tv ad))).monitorRoom + ((r.map (tv ad)).map fun v => v.category).sum ≤ 8 := lv_room (sle_cat 4 r hsl)
  have fin : ∀ (aa : Array Value), va_Run p l e R s m args below meth c H locs cells slots 0 0 (F0 m pc ls (st.map (tv ad))) (r.map (tv ad)) (QX (mR a) (fun v S' => nx (pc + 3) L (rp v r) S') (BX dC dI cA ad (va_A (wld cA ad S) H.size)) (va_A (wld cA ad S) H.size) aa) (va_A (wld cA ad S) H.size) → W p l e R s m args below meth c H locs cells slots Z (F0 m pc ls (st.map (tv ad))) := by
    intro aa hr
    cases hret : mR a with
    | none =>
      rw [hret] at hr
      refine va_callv (a := aa) hr hS (fun q _ h => hFc q h) hFc (fun u t H1 locs1 ht hvm hw hB hz1 hk1 hS1 => ?_)
      obtain ⟨g1, g2⟩ := call_back hFc ht hB
      exact hnx _ _ _ _ hw H1 locs1 ls g1 g2 hS1 hl
    | some ty =>
      rw [hret] at hr
      cases ty with
      | long =>
        refine va_calll (a := aa) hr hS (fun q _ h => hFc q h) hFc (fun rv u t H1 locs1 ht hvm hw hB hz1 hk1 hS1 => ?_)
        obtain ⟨g1, g2⟩ := call_back hFc ht hB
        exact hnx _ _ _ _ hw H1 locs1 ls g1 g2 hS1 hl
      | _ =>
        refine va_calli (a := aa) hr hS (fun q _ h => hFc q h) hFc (fun rv u t H1 locs1 ht hvm hw hB hz1 hk1 hS1 => ?_)
        obtain ⟨g1, g2⟩ := call_back hFc ht hB
        exact hnx _ _ _ _ hw H1 locs1 ls g1 g2 hS1 hl
  rcases hkind with ⟨hst, q, bs, rfl, hcl, hd⟩ | ⟨hst, hd⟩
  · rw [hst] at e2 hkw
    obtain ⟨hsw, T, N, hvw⟩ : Cond.selects (mY a).cls (mY a) (mY a) ∈ Wt ∧ ∃ (T : u_T) (N : Nat), vwCl[ciO (mO a)]? = some ((mY a).cls, T, N) := hsel.elim (fun z => by rw [hst] at z; cases z) id
    obtain ⟨ts, hts1⟩ := cls_inv hcl
    refine fin _ (va_runV (As := bs.map (tv ad)) (rest := r.map (tv ad)) (b := ad q) ⟨hx, hb, hml, hown, hts⟩ hM ⟨hC, hts _ hkw, hts _ hsw⟩ ⟨PX_blind, va_recv hK hP hvw (wld_get hts1), fun U h1 h2 => hU _ U h1 h2⟩ rfl ?_ hl.2.1 ?_ hcat hd ⟨hR3, hR4⟩)
    · rw [List.length_map]
      simpa using e2
    · show st.map (tv ad) = _
      rw [e3]
      simp [tv]
  · rw [hst] at e2 hkw
    refine fin _ (va_runS (As := as.map (tv ad)) (rest := r.map (tv ad)) ⟨hx, hb, hml, hown, hts⟩ hM ⟨hC, hts _ hkw⟩ ⟨PX_blind, fun U h1 h2 => hU _ U h1 h2⟩ rfl ?_ hl.2.1 ?_ hcat hd ⟨hR3, hR4⟩)
    · rw [List.length_map]
      exact e2
    · show st.map (tv ad) = _
      rw [e3]
      simp
end SIMC
section SIM4
variable {p : Program} {l : Launch} {e : Env} {R : Room} {s : State} {m : MethodId} {args : Array Value} {below : List Frame} {meth : Method} {c : Code} {cells slots : Nat} {Z : State → Prop} {dC : Nat → ClassId} {dI : Nat → Nat → Nat} {cA : ClassId} {ad : Nat → Nat} {A : Nat → Prop}
set_option maxHeartbeats 4000000 in
/-- ONE INSTRUCTION -/
theorem sim1 {M : Nat} {sc : Option (Nat × (Nat → Int32))} {Q : Pst} {nx : Nat → Lcs → List Value → Mem → Prop} (hx : p.tables.exec = Jvm.exec) (hb : c.code = mB M) (hml : c.maxLocals = mL M) (hown : s.vm.findClass (cN (mO M)) = some m.cls) (hts : ∀ w ∈ Wt, w.before args s = true)
    (hK : va_K (dC, dI) vwCl [(cA, .int)] s) (hA : ∀ q, s.heap.size ≤ q → A q) (hR1 : mF M ≤ R.frames) (hR2 : mQ M ≤ R.locals) (hR3 : cells ≤ R.cells) (hR4 : slots ≤ R.slots)
    (hsc : ∀ n xs, sc = some (n, xs) → va_X (ad 99) n xs s s.heap ∧ ad 99 < s.heap.size ∧ ¬ A (ad 99))
    (hri : ∀ pc L S (x : Int32), decode (mB M) pc = .ok (.ireturn, 1) → ((mR M = some .int) ∨ (mR M = some .boolean ∧ (x = 0 ∨ x = 1))) → Q (some (.int x)) S → Wd p l e R s m args below meth c cells slots Z dC dI cA ad A (mL M) pc L [.int x] S)
    (hrl : ∀ pc L S (x : Int64), decode (mB M) pc = .ok (.lreturn, 1) → mR M = some .long → Q (some (.long x)) S → Wd p l e R s m args below meth c cells slots Z dC dI cA ad A (mL M) pc L [.long x] S)
    (hrv : ∀ pc L S, decode (mB M) pc = .ok (.return_, 1) → mR M = none → Q none S → Wd p l e R s m args below meth c cells slots Z dC dI cA ad A (mL M) pc L [] S)
    (hnx : ∀ pc L st S, nx pc L st S → Wd p l e R s m args below meth c cells slots Z dC dI cA ad A (mL M) pc L st S)
    {pc : Nat} {o : PO} (hq : chk M pc o = true) {L : Lcs} {st : List Value} {S : Mem} (h : exec OK sc o L st S Q nx) : Wd p l e R s m args below meth c cells slots Z dC dI cA ad A (mL M) pc L st S := by
  obtain ⟨i, n, a, b, d, e', v, sw⟩ := o
  obtain ⟨hd0, hc⟩ := (Bool.and_eq_true _ _).mp hq
  have hd := of_decide_eq_true hd0
  clear hq hd0
  cases i with
  | iconst k =>
    obtain ⟨rfl, hv⟩ := of_decide_eq_true hc
    rw [Nat.add_sub_cancel_left] at hd
    intro H locs ls hP hD hS hl
    exact lv_iconst hx hb hd hv (hnx _ _ _ _ h H locs ls hP hD hS hl)
  | bipush k =>
    obtain ⟨rfl, hv⟩ := of_decide_eq_true hc
    rw [Nat.add_sub_cancel_left] at hd
    intro H locs ls hP hD hS hl
    exact lv_bipush hx hb hd hv (hnx _ _ _ _ h H locs ls hP hD hS hl)
  | sipush k =>
    obtain ⟨rfl, hv⟩ := of_decide_eq_true hc
    rw [Nat.add_sub_cancel_left] at hd
    intro H locs ls hP hD hS hl
    exact lv_sipush hx hb hd hv (hnx _ _ _ _ h H locs ls hP hD hS hl)
  | ldc x =>
    obtain ⟨rfl, hv⟩ := of_decide_eq_true hc
    rw [Nat.add_sub_cancel_left] at hd
    intro H locs ls hP hD hS hl
    exact lv_ldc hx hb hown (hts _ (kon_ok _ (List.mem_of_getElem? hv))) hd (hnx _ _ _ _ h H locs ls hP hD hS hl)
  | ldc_w x =>
    obtain ⟨rfl, hv⟩ := of_decide_eq_true hc
    rw [Nat.add_sub_cancel_left] at hd
    intro H locs ls hP hD hS hl
    exact lv_ldcw hx hb hown (hts _ (kon_ok _ (List.mem_of_getElem? hv))) hd (hnx _ _ _ _ h H locs ls hP hD hS hl)
  | lconst k =>
    obtain ⟨rfl, rfl⟩ := of_decide_eq_true hc
    rw [Nat.add_sub_cancel_left] at hd
    intro H locs ls hP hD hS hl
    exact lv_lconst hx hb hd rfl (hnx _ _ _ _ h H locs ls hP hD hS hl)
  | ldc2_w x =>
    obtain ⟨rfl, hv⟩ := of_decide_eq_true hc
    rw [Nat.add_sub_cancel_left] at hd
    intro H locs ls hP hD hS hl
    exact lv_ldc2 hx hb hown (hts _ (konL_ok _ (List.mem_of_getElem? hv))) hd (hnx _ _ _ _ h H locs ls hP hD hS hl)
  | iload k =>
    obtain ⟨rfl, rfl⟩ := of_decide_eq_true hc
    rw [Nat.add_sub_cancel_left] at hd
    obtain ⟨x, hv, h9⟩ := xldi_inv h
    have h := h9
    intro H locs ls hP hD hS hl
    exact lv_iload hx hb hd (hl.2.2 _ _ hv) (hnx _ _ _ _ h H locs ls hP hD hS hl)
  | iload_n k =>
    obtain ⟨rfl, rfl⟩ := of_decide_eq_true hc
    rw [Nat.add_sub_cancel_left] at hd
    obtain ⟨x, hv, h9⟩ := xldi_inv h
    have h := h9
    intro H locs ls hP hD hS hl
    exact lv_iload_n hx hb hd rfl (hl.2.2 _ _ hv) (hnx _ _ _ _ h H locs ls hP hD hS hl)
  | lload k =>
    obtain ⟨rfl, rfl⟩ := of_decide_eq_true hc
    rw [Nat.add_sub_cancel_left] at hd
    obtain ⟨x, hv, h9⟩ := xldl_inv h
    have h := h9
    intro H locs ls hP hD hS hl
    exact lv_lload hx hb hd (hl.2.2 _ _ hv) (hnx _ _ _ _ h H locs ls hP hD hS hl)
  | lload_n k =>
    obtain ⟨rfl, rfl⟩ := of_decide_eq_true hc
    rw [Nat.add_sub_cancel_left] at hd
    obtain ⟨x, hv, h9⟩ := xldl_inv h
    have h := h9
    intro H locs ls hP hD hS hl
    exact lv_lload_n hx hb hd rfl (hl.2.2 _ _ hv) (hnx _ _ _ _ h H locs ls hP hD hS hl)
  | aload_n k =>
    obtain ⟨rfl, rfl⟩ := of_decide_eq_true hc
    rw [Nat.add_sub_cancel_left] at hd
    obtain ⟨x, hv, h9⟩ := xlda_inv h
    have h := h9
    intro H locs ls hP hD hS hl
    exact lv_aload_n hx hb hd rfl (hl.2.2 _ _ hv) (hnx _ _ _ _ h H locs ls hP hD hS hl)
  | istore k =>
    obtain ⟨rfl, rfl, hn⟩ := of_decide_eq_true hc
    rw [Nat.add_sub_cancel_left] at hd
    obtain ⟨x, r, rfl, h9⟩ := xs1_inv h
    have h := h9
    intro H locs ls hP hD hS hl
    exact lv_istore hx hb hd (lvL_has hl) hn rfl (fun ls1 h1 => hnx _ _ _ _ h H locs ls1 hP hD hS (lvL_st1 h1))
  | istore_n k =>
    obtain ⟨rfl, rfl, hn⟩ := of_decide_eq_true hc
    rw [Nat.add_sub_cancel_left] at hd
    obtain ⟨x, r, rfl, h9⟩ := xs1_inv h
    have h := h9
    intro H locs ls hP hD hS hl
    exact lv_istore_n hx hb hd rfl (lvL_has hl) hn rfl (fun ls1 h1 => hnx _ _ _ _ h H locs ls1 hP hD hS (lvL_st1 h1))
  | lstore k =>
    obtain ⟨rfl, rfl, hn⟩ := of_decide_eq_true hc
    rw [Nat.add_sub_cancel_left] at hd
    obtain ⟨x, r, rfl, h9⟩ := xl1_inv h
    have h := h9
    intro H locs ls hP hD hS hl
    exact lv_lstore hx hb hd (lvL_has hl) hn rfl (fun ls1 h1 => hnx _ _ _ _ h H locs ls1 hP hD hS (lvL_st2 h1))
  | lstore_n k =>
    obtain ⟨rfl, rfl, hn⟩ := of_decide_eq_true hc
    rw [Nat.add_sub_cancel_left] at hd
    obtain ⟨x, r, rfl, h9⟩ := xl1_inv h
    have h := h9
    intro H locs ls hP hD hS hl
    exact lv_lstore_n hx hb hd rfl (lvL_has hl) hn rfl (fun ls1 h1 => hnx _ _ _ _ h H locs ls1 hP hD hS (lvL_st2 h1))
  | astore_n k =>
    obtain ⟨rfl, rfl, hn⟩ := of_decide_eq_true hc
    rw [Nat.add_sub_cancel_left] at hd
    obtain ⟨x, r, rfl, h9⟩ := xr1_inv h
    have h := h9
    intro H locs ls hP hD hS hl
    exact lv_astore_n hx hb hd rfl (lvL_has hl) hn rfl (fun ls1 h1 => hnx _ _ _ _ h H locs ls1 hP hD hS (lvL_st1 h1))
  | iinc k j =>
    obtain ⟨rfl, rfl, hv, hn⟩ := of_decide_eq_true hc
    rw [Nat.add_sub_cancel_left] at hd
    obtain ⟨x, hg, h9⟩ := xldi_inv h
    have h := h9
    intro H locs ls hP hD hS hl
    obtain ⟨k0, hk0⟩ := List.getElem?_of_mem (asl_mem (ad := ad) hg)
    exact lv_iinc hx hb hd (lvL_has hl) hk0 (v := x + v) (by rw [hv]) hn rfl (fun ls1 h1 => hnx _ _ _ _ h H locs ls1 hP hD hS (lvL_st1 (v := .int (x + v)) h1))
  | iadd =>
    have hn : n = pc + 1 := of_decide_eq_true hc
    subst hn
    rw [Nat.add_sub_cancel_left] at hd
    obtain ⟨x, y, r, rfl, h9⟩ := xs2_inv h
    have h := h9
    intro H locs ls hP hD hS hl
    exact lv_iadd hx hb hd (hnx _ _ _ _ h H locs ls hP hD hS hl)
  | isub =>
    have hn : n = pc + 1 := of_decide_eq_true hc
    subst hn
    rw [Nat.add_sub_cancel_left] at hd
    obtain ⟨x, y, r, rfl, h9⟩ := xs2_inv h
    have h := h9
    intro H locs ls hP hD hS hl
    exact lv_isub hx hb hd (hnx _ _ _ _ h H locs ls hP hD hS hl)
  | imul =>
    have hn : n = pc + 1 := of_decide_eq_true hc
    subst hn
    rw [Nat.add_sub_cancel_left] at hd
    obtain ⟨x, y, r, rfl, h9⟩ := xs2_inv h
    have h := h9
    intro H locs ls hP hD hS hl
    exact lv_imul hx hb hd (hnx _ _ _ _ h H locs ls hP hD hS hl)
  | iand =>
    have hn : n = pc + 1 := of_decide_eq_true hc
    subst hn
    rw [Nat.add_sub_cancel_left] at hd
    obtain ⟨x, y, r, rfl, h9⟩ := xs2_inv h
    have h := h9
    intro H locs ls hP hD hS hl
    exact lv_iand hx hb hd (hnx _ _ _ _ h H locs ls hP hD hS hl)
  | ior =>
    have hn : n = pc + 1 := of_decide_eq_true hc
    subst hn
    rw [Nat.add_sub_cancel_left] at hd
    obtain ⟨x, y, r, rfl, h9⟩ := xs2_inv h
    have h := h9
    intro H locs ls hP hD hS hl
    exact lv_ior hx hb hd (hnx _ _ _ _ h H locs ls hP hD hS hl)
  | ixor =>
    have hn : n = pc + 1 := of_decide_eq_true hc
    subst hn
    rw [Nat.add_sub_cancel_left] at hd
    obtain ⟨x, y, r, rfl, h9⟩ := xs2_inv h
    have h := h9
    intro H locs ls hP hD hS hl
    exact lv_ixor hx hb hd (hnx _ _ _ _ h H locs ls hP hD hS hl)
  | ishl =>
    have hn : n = pc + 1 := of_decide_eq_true hc
    subst hn
    rw [Nat.add_sub_cancel_left] at hd
    obtain ⟨x, y, r, rfl, h9⟩ := xs2_inv h
    have h := h9
    intro H locs ls hP hD hS hl
    exact lv_ishl hx hb hd (hnx _ _ _ _ h H locs ls hP hD hS hl)
  | ishr =>
    have hn : n = pc + 1 := of_decide_eq_true hc
    subst hn
    rw [Nat.add_sub_cancel_left] at hd
    obtain ⟨x, y, r, rfl, h9⟩ := xs2_inv h
    have h := h9
    intro H locs ls hP hD hS hl
    exact lv_ishr hx hb hd (hnx _ _ _ _ h H locs ls hP hD hS hl)
  | iushr =>
    have hn : n = pc + 1 := of_decide_eq_true hc
    subst hn
    rw [Nat.add_sub_cancel_left] at hd
    obtain ⟨x, y, r, rfl, h9⟩ := xs2_inv h
    have h := h9
    intro H locs ls hP hD hS hl
    exact lv_iushr hx hb hd rfl (hnx _ _ _ _ h H locs ls hP hD hS hl)
  | idiv =>
    have hn : n = pc + 1 := of_decide_eq_true hc
    subst hn
    rw [Nat.add_sub_cancel_left] at hd
    obtain ⟨x, y, r, rfl, hne, h9⟩ := xs2_inv h
    have h := h9
    intro H locs ls hP hD hS hl
    exact lv_idiv hx hb hd hne (hnx _ _ _ _ h H locs ls hP hD hS hl)
  | irem =>
    have hn : n = pc + 1 := of_decide_eq_true hc
    subst hn
    rw [Nat.add_sub_cancel_left] at hd
    obtain ⟨x, y, r, rfl, hne, h9⟩ := xs2_inv h
    have h := h9
    intro H locs ls hP hD hS hl
    exact lv_irem hx hb hd hne (hnx _ _ _ _ h H locs ls hP hD hS hl)
  | ineg =>
    have hn : n = pc + 1 := of_decide_eq_true hc
    subst hn
    rw [Nat.add_sub_cancel_left] at hd
    obtain ⟨x, r, rfl, h9⟩ := xs1_inv h
    have h := h9
    intro H locs ls hP hD hS hl
    exact lv_ineg hx hb hd (hnx _ _ _ _ h H locs ls hP hD hS hl)
  | ladd =>
    have hn : n = pc + 1 := of_decide_eq_true hc
    subst hn
    rw [Nat.add_sub_cancel_left] at hd
    obtain ⟨x, y, r, rfl, h9⟩ := xl2_inv h
    have h := h9
    intro H locs ls hP hD hS hl
    exact lv_ladd hx hb hd (hnx _ _ _ _ h H locs ls hP hD hS hl)
  | lsub =>
    have hn : n = pc + 1 := of_decide_eq_true hc
    subst hn
    rw [Nat.add_sub_cancel_left] at hd
    obtain ⟨x, y, r, rfl, h9⟩ := xl2_inv h
    have h := h9
    intro H locs ls hP hD hS hl
    exact lv_lsub hx hb hd (hnx _ _ _ _ h H locs ls hP hD hS hl)
  | lmul =>
    have hn : n = pc + 1 := of_decide_eq_true hc
    subst hn
    rw [Nat.add_sub_cancel_left] at hd
    obtain ⟨x, y, r, rfl, h9⟩ := xl2_inv h
    have h := h9
    intro H locs ls hP hD hS hl
    exact lv_lmul hx hb hd (hnx _ _ _ _ h H locs ls hP hD hS hl)
  | ldiv =>
    have hn : n = pc + 1 := of_decide_eq_true hc
    subst hn
    rw [Nat.add_sub_cancel_left] at hd
    obtain ⟨x, y, r, rfl, hne, h9⟩ := xl2_inv h
    have h := h9
    intro H locs ls hP hD hS hl
    exact lv_ldiv hx hb hd hne (hnx _ _ _ _ h H locs ls hP hD hS hl)
  | lrem =>
    have hn : n = pc + 1 := of_decide_eq_true hc
    subst hn
    rw [Nat.add_sub_cancel_left] at hd
    obtain ⟨x, y, r, rfl, hne, h9⟩ := xl2_inv h
    have h := h9
    intro H locs ls hP hD hS hl
    exact lv_lrem hx hb hd hne (hnx _ _ _ _ h H locs ls hP hD hS hl)
  | lcmp =>
    have hn : n = pc + 1 := of_decide_eq_true hc
    subst hn
    rw [Nat.add_sub_cancel_left] at hd
    obtain ⟨x, y, r, rfl, h9⟩ := xl2_inv h
    have h := h9
    intro H locs ls hP hD hS hl
    exact W.lcmp hx hb hd (hnx _ _ _ _ h H locs ls hP hD hS hl)
  | i2l =>
    have hn : n = pc + 1 := of_decide_eq_true hc
    subst hn
    rw [Nat.add_sub_cancel_left] at hd
    obtain ⟨x, r, rfl, h9⟩ := xs1_inv h
    have h := h9
    intro H locs ls hP hD hS hl
    exact lv_i2l hx hb hd rfl (hnx _ _ _ _ h H locs ls hP hD hS hl)
  | dup =>
    have hn : n = pc + 1 := of_decide_eq_true hc
    subst hn
    rw [Nat.add_sub_cancel_left] at hd
    have h : xdup st (fun r => nx (pc + 1) L r S) := h
    obtain ⟨x, r, rfl, hcat, h9⟩ := xdup_inv h
    have h := h9
    intro H locs ls hP hD hS hl
    exact lv_dup hx hb hd (by rw [tv_cat]; exact hcat) (hnx _ _ _ _ h H locs ls hP hD hS hl)
  | dup2 =>
    have hn : n = pc + 1 := of_decide_eq_true hc
    subst hn
    rw [Nat.add_sub_cancel_left] at hd
    obtain ⟨q, x, r, rfl, h9⟩ := xir_inv h
    have h := h9
    intro H locs ls hP hD hS hl
    exact lv_dup2_11 hx hb hd rfl rfl (hnx _ _ _ _ h H locs ls hP hD hS hl)
  | pop =>
    have hn : n = pc + 1 := of_decide_eq_true hc
    subst hn
    rw [Nat.add_sub_cancel_left] at hd
    obtain ⟨x, r, rfl, h9⟩ := xs1_inv h
    have h := h9
    intro H locs ls hP hD hS hl
    exact lv_pop hx hb hd rfl (hnx _ _ _ _ h H locs ls hP hD hS hl)
  | goto off =>
    obtain ⟨rfl, ht⟩ := of_decide_eq_true hc
    rw [Nat.add_sub_cancel_left] at hd
    intro H locs ls hP hD hS hl
    exact lv_goto hx hb hd ht (hnx _ _ _ _ h H locs ls hP hD hS hl)
  | ifCond cnd off =>
    obtain ⟨rfl, ht⟩ := of_decide_eq_true hc
    rw [Nat.add_sub_cancel_left] at hd
    cases cnd with
    | eq =>
      obtain ⟨x, r, rfl, h1, h2⟩ := xs1_inv h
      intro H locs ls hP hD hS hl
      exact lv_if_eq hx hb hd ht (fun q => hnx _ _ _ _ (h1 q) H locs ls hP hD hS hl) (fun q => hnx _ _ _ _ (h2 q) H locs ls hP hD hS hl)
    | ne =>
      obtain ⟨x, r, rfl, h1, h2⟩ := xs1_inv h
      intro H locs ls hP hD hS hl
      exact lv_if_ne hx hb hd ht (fun q => hnx _ _ _ _ (h2 q) H locs ls hP hD hS hl) (fun q => hnx _ _ _ _ (h1 q) H locs ls hP hD hS hl)
    | lt =>
      obtain ⟨x, r, rfl, h1, h2⟩ := xs1_inv h
      intro H locs ls hP hD hS hl
      exact lv_if_lt hx hb hd ht (fun q => hnx _ _ _ _ (h1 q) H locs ls hP hD hS hl) (fun q => hnx _ _ _ _ (h2 q) H locs ls hP hD hS hl)
    | ge =>
      obtain ⟨x, r, rfl, h1, h2⟩ := xs1_inv h
      intro H locs ls hP hD hS hl
      exact lv_if_ge hx hb hd ht (fun q => hnx _ _ _ _ (h1 q) H locs ls hP hD hS hl) (fun q => hnx _ _ _ _ (h2 q) H locs ls hP hD hS hl)
    | gt =>
      obtain ⟨x, r, rfl, h1, h2⟩ := xs1_inv h
      intro H locs ls hP hD hS hl
      exact lv_if_gt hx hb hd ht (fun q => hnx _ _ _ _ (h1 q) H locs ls hP hD hS hl) (fun q => hnx _ _ _ _ (h2 q) H locs ls hP hD hS hl)
    | le =>
      obtain ⟨x, r, rfl, h1, h2⟩ := xs1_inv h
      intro H locs ls hP hD hS hl
      exact lv_if_le hx hb hd ht (fun q => hnx _ _ _ _ (h1 q) H locs ls hP hD hS hl) (fun q => hnx _ _ _ _ (h2 q) H locs ls hP hD hS hl)
  | if_icmp cnd off =>
    obtain ⟨rfl, ht⟩ := of_decide_eq_true hc
    rw [Nat.add_sub_cancel_left] at hd
    cases cnd with
    | eq =>
      obtain ⟨x, y, r, rfl, h1, h2⟩ := xs2_inv h
      intro H locs ls hP hD hS hl
      exact lv_icmp_eq hx hb hd ht (fun q => hnx _ _ _ _ (h1 q) H locs ls hP hD hS hl) (fun q => hnx _ _ _ _ (h2 q) H locs ls hP hD hS hl)
    | ne =>
      obtain ⟨x, y, r, rfl, h1, h2⟩ := xs2_inv h
      intro H locs ls hP hD hS hl
      exact lv_icmp_ne hx hb hd ht (fun q => hnx _ _ _ _ (h2 q) H locs ls hP hD hS hl) (fun q => hnx _ _ _ _ (h1 q) H locs ls hP hD hS hl)
    | lt =>
      obtain ⟨x, y, r, rfl, h1, h2⟩ := xs2_inv h
      intro H locs ls hP hD hS hl
      exact lv_icmp_lt hx hb hd ht (fun q => hnx _ _ _ _ (h1 q) H locs ls hP hD hS hl) (fun q => hnx _ _ _ _ (h2 q) H locs ls hP hD hS hl)
    | ge =>
      obtain ⟨x, y, r, rfl, h1, h2⟩ := xs2_inv h
      intro H locs ls hP hD hS hl
      exact lv_icmp_ge hx hb hd ht (fun q => hnx _ _ _ _ (h1 q) H locs ls hP hD hS hl) (fun q => hnx _ _ _ _ (h2 q) H locs ls hP hD hS hl)
    | gt =>
      obtain ⟨x, y, r, rfl, h1, h2⟩ := xs2_inv h
      intro H locs ls hP hD hS hl
      exact lv_icmp_gt hx hb hd ht (fun q => hnx _ _ _ _ (h1 q) H locs ls hP hD hS hl) (fun q => hnx _ _ _ _ (h2 q) H locs ls hP hD hS hl)
    | le =>
      obtain ⟨x, y, r, rfl, h1, h2⟩ := xs2_inv h
      intro H locs ls hP hD hS hl
      exact lv_icmp_le hx hb hd ht (fun q => hnx _ _ _ _ (h1 q) H locs ls hP hD hS hl) (fun q => hnx _ _ _ _ (h2 q) H locs ls hP hD hS hl)
  | tableswitch dflt lo hi offs =>
    obtain ⟨hdf, hsz, h1, h2, rfl, hp⟩ := of_decide_eq_true hc
    obtain ⟨x, r, rfl, h9⟩ := xs1_inv h
    have h := h9
    have h := swx_fst h
    intro H locs ls hP hD hS hl
    rcases swf_table (x := x) hdf hsz h1 h2 hp with ⟨g1, g2⟩ | ⟨g1, g2, off, g3, g4⟩
    · rw [g2] at h
      exact lv_tableOut hx hb hd g1 hdf (hnx _ _ _ _ h H locs ls hP hD hS hl)
    · exact lv_tableIn hx hb hd g1 g2 g3 g4 (hnx _ _ _ _ h H locs ls hP hD hS hl)
  | lookupswitch dflt ps =>
    obtain ⟨hdf, hso, rfl, hp⟩ := of_decide_eq_true hc
    obtain ⟨x, r, rfl, h9⟩ := xs1_inv h
    have h := h9
    have h := swx_fst h
    intro H locs ls hP hD hS hl
    exact lv_lookup hx hb hd hso rfl (swf_look hdf _ hp) (hnx _ _ _ _ h H locs ls hP hD hS hl)
  | getfield x =>
    obtain ⟨rfl, hf⟩ := of_decide_eq_true hc
    rw [Nat.add_sub_cancel_left] at hd
    obtain ⟨q, r, rfl, h9⟩ := xr1_inv h
    have h := h9
    obtain ⟨C, T, N, hc1, hc2, hc3, hc4⟩ := fl_ok _ (List.mem_of_getElem? hf)
    intro H locs ls hP hD hS hl
    rcases xfld_inv h with ⟨hf1, h⟩ | ⟨t, hf1, h⟩
    · obtain ⟨ts, g1, g2⟩ := fld_inv hf1
      exact va_get hx hb hts (KOK hc1).1 hown hK hP q (wld_get g1) hc1 b hc2 (hts _ hc4) (fun z hz => hc3 ▸ hz) (cel_i g2) hd (hnx _ _ _ _ h H locs ls hP hD hS hl)
    · obtain ⟨ts, g1, g2⟩ := fld_inv hf1
      exact va_get hx hb hts (KOK hc1).1 hown hK hP q (wld_get g1) hc1 b hc2 (hts _ hc4) (fun z hz => hc3 ▸ hz) (cel_r g2) hd (hnx _ _ _ _ h H locs ls hP hD hS hl)
  | putfield x =>
    obtain ⟨hc, hpt⟩ := (Bool.and_eq_true _ _).mp hc
    obtain ⟨rfl, hf⟩ := of_decide_eq_true hc
    rw [Nat.add_sub_cancel_left] at hd
    obtain ⟨q, x, r, rfl, h9⟩ := xir_inv h
    have h := h9
    obtain ⟨C, T, N, hc1, hc2, hc3, hc4⟩ := fl_ok _ (List.mem_of_getElem? hf)
    obtain ⟨hp1, hp2⟩ := ptk_inv hpt hc1
    intro H locs ls hP hD hS hl
    rcases xfld_inv h with ⟨hf1, h⟩ | ⟨t, hf1, h⟩
    · obtain ⟨ts, g1, g2⟩ := fld_inv hf1
      obtain ⟨hb1, h9⟩ := xbo_inv h
      have h := h9
      obtain ⟨ty0, hty0⟩ := (KOK hc1).2.1
      exact va_put hx hb hts (KOK hc1).1 ty0 hty0 (KOK hc1).2.2 hown hK hP hD hS q (wld_get g1) hc1 b hc2 (hts _ hc4) (fun z hz => hc3 ▸ hz) hp1 hp2 (bo_narrow hb1) (bo_fits hb1) (cel_l g2) hd (fun H1 locs1 hP1 hD1 hS1 => hnx _ _ _ _ h H1 locs1 ls (by rw [← wld_set_of g1 (cel_set g2)]; exact hP1) (by rw [← wld_set_of g1 (cel_set g2)]; exact hD1) hS1 hl)
    · exact h.elim
  | iaload =>
    have hn : n = pc + 1 := of_decide_eq_true hc
    subst hn
    rw [Nat.add_sub_cancel_left] at hd
    obtain ⟨q, j, r, rfl, h9⟩ := xir_inv h
    have h := h9
    intro H locs ls hP hD hS hl
    rcases xlen_inv h with ⟨k, hk, hin, h⟩ | ⟨k, xs, hk, rfl, hin, h⟩
    · exact va_iald hx hb hK hP q 0 (wld_get (alen_inv hk)) rfl hin hd (hnx _ _ _ _ h H locs ls hP hD hS hl)
    · obtain ⟨g1, g2, g3⟩ := hsc k xs hk
      exact va_sld hx hb g1 g2 g3 hS hin hd (hnx _ _ _ _ h H locs ls hP hD hS hl)
  | iastore =>
    have hn : n = pc + 1 := of_decide_eq_true hc
    subst hn
    rw [Nat.add_sub_cancel_left] at hd
    obtain ⟨q, j, x, r, rfl, h9⟩ := xiir_inv h
    have h := h9
    intro H locs ls hP hD hS hl
    rcases xlen_inv h with ⟨k, hk, hin, h⟩ | ⟨k, xs, hk, h⟩
    · exact va_iast hx hb hK hP hD hS q 0 (wld_get (alen_inv hk)) rfl hin hd (fun H1 locs1 hP1 hD1 hS1 => hnx _ _ _ _ h H1 locs1 ls (by rw [← wld_set_of (alen_inv hk) rfl]; exact hP1) (by rw [← wld_set_of (alen_inv hk) rfl]; exact hD1) hS1 hl)
    · exact h.elim
  | arraylength =>
    have hn : n = pc + 1 := of_decide_eq_true hc
    subst hn
    rw [Nat.add_sub_cancel_left] at hd
    obtain ⟨q, r, rfl, h9⟩ := xr1_inv h
    have h := h9
    intro H locs ls hP hD hS hl
    rcases xlen_inv h with ⟨k, hk, h8⟩ | ⟨k, xs, hk, rfl, h8⟩
    · exact va_alen hx hb hK hP q 0 (wld_get (alen_inv hk)) rfl rfl hd (hnx _ _ _ _ h8 H locs ls hP hD hS hl)
    · obtain ⟨g1, g2, g3⟩ := hsc k xs hk
      exact va_slen hx hb g1 g2 g3 hS hd (hnx _ _ _ _ h8 H locs ls hP hD hS hl)
  | invokevirtual x =>
    obtain ⟨rfl, hlk, hin, hst, rfl, rfl, hf1, hf2⟩ := of_decide_eq_true hc
    rw [Nat.add_sub_cancel_left] at hd
    have h : xvir (tk (mA a + 1) [] st) (ciO (mO a)) (fun as r => OK a as S fun v S' => nx (pc + 3) L (rp v r) S') := h
    obtain ⟨q, as, r, htk, hcl, hsl, h9⟩ := xvir_inv h
    have h := h9
    intro H locs ls hP hD hS hl
    exact sim_call hx hb hml hown hts hK hA hR1 hR2 hR3 hR4 hnx hlk hin hf1 hf2 (Or.inl ⟨hst, q, as, rfl, hcl, hd⟩) (by rw [hst]; exact htk) hsl h H locs ls hP hD hS hl
  | invokestatic x =>
    obtain ⟨hc, hc2⟩ := (Bool.and_eq_true _ _).mp hc
    obtain ⟨rfl, hlk⟩ := of_decide_eq_true hc
    rw [Nat.add_sub_cancel_left] at hd
    match e', hc2, h with
    | 0, hc2, h =>
      obtain ⟨hin, hst, rfl, hf1, hf2⟩ := of_decide_eq_true hc2
      obtain ⟨as, r, htk, hsl, h9⟩ := xsta_inv h
      have h := h9
      intro H locs ls hP hD hS hl
      exact sim_call hx hb hml hown hts hK hA hR1 hR2 hR3 hR4 hnx hlk hin hf1 hf2 (Or.inr ⟨hst, hd⟩) (by rw [hst]; exact htk) hsl h H locs ls hP hD hS hl
    | 1, hc2, h =>
      obtain ⟨rfl, hf1, hf2⟩ := of_decide_eq_true hc2
      obtain ⟨x, r, rfl, h9⟩ := xs1_inv h
      have h := h9
      obtain ⟨hsl, h9⟩ := cnd_inv h
      have h := h9
      intro H locs ls hP hD hS hl
      have hcat := sle_cat (ad := ad) 4 r hsl
      exact va_mabs hx hb (hml.trans hl.2.1.symm) hown (hts _ (absW_l (cl_ok _ (List.mem_of_getElem? hlk)))) (hts _ absW_s) (hts _ mathW_i) (hts _ absW_c) (by omega) (by omega) hR3 hR4 hd (hnx _ _ _ _ h H locs ls hP hD hS hl)
    | 2, hc2, h =>
      obtain ⟨rfl, hf1, hf2⟩ := of_decide_eq_true hc2
      obtain ⟨x, y, r, rfl, h9⟩ := xs2_inv h
      have h := h9
      obtain ⟨hsl, h9⟩ := cnd_inv h
      have h := h9
      intro H locs ls hP hD hS hl
      have hcat := sle_cat (ad := ad) 4 r hsl
      exact va_mmax hx hb (hml.trans hl.2.1.symm) hown (hts _ (maxW_l (cl_ok _ (List.mem_of_getElem? hlk)))) (hts _ maxW_s) (hts _ mathW_i) (hts _ maxW_c) (by omega) (by omega) hR3 hR4 hd (hnx _ _ _ _ h H locs ls hP hD hS hl)
    | k + 3, hc2, h => cases hc2
  | ireturn =>
    obtain ⟨rfl, hr⟩ := of_decide_eq_true hc
    rw [Nat.add_sub_cancel_left] at hd
    obtain ⟨x, rfl, hb2, h9⟩ := xri_inv h
    have h := h9
    refine hri _ _ _ _ hd ?_ h
    rcases hr with ⟨-, h1⟩ | ⟨h0, h1⟩
    · exact Or.inl h1
    · exact Or.inr ⟨h1, hb2 (by omega)⟩
  | lreturn =>
    obtain ⟨rfl, hr⟩ := of_decide_eq_true hc
    rw [Nat.add_sub_cancel_left] at hd
    obtain ⟨x, rfl, h9⟩ := xrl_inv h
    have h := h9
    exact hrl _ _ _ _ hd hr h
  | return_ =>
    obtain ⟨rfl, hr⟩ := of_decide_eq_true hc
    rw [Nat.add_sub_cancel_left] at hd
    obtain ⟨rfl, h9⟩ := xrv_inv h
    have h := h9
    exact hrv _ _ _ hd hr h
  | _ =>
    exact h.elim
end SIM4
