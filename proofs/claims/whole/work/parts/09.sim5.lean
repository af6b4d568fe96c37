/-! THE PURE MACHINE STANDS FOR THE MACHINE: a method -/
def chkAll (M : Nat) (cd : Nat → Option PO) : Prop := ∀ pc o, cd pc = some o → chk M pc o = true
theorem chk_of {M n : Nat} {f : Nat → Option PO} (h : ((List.range n).all fun pc => match f pc with
    | none => true
    | some o => chk M pc o) = true) : chkAll M (cdg n f) := by
  intro pc o ho
  unfold cdg at ho
  cases hb : Nat.blt pc n with
  | false => rw [hb] at ho; cases ho
  | true =>
    rw [hb] at ho
    have hlt : pc < n := Nat.le_of_ble_eq_true hb
    have := List.all_eq_true.mp h pc (List.mem_range.mpr hlt)
    have ho : f pc = some o := ho
    rw [ho] at this
    exact this
/-- what a method's body knows of the machine -/
def Cx (M : Nat) (p : Program) (s : State) (m : MethodId) (args : Array Value) (meth : Method) (c : Code) : Prop :=
  p.tables.exec = Jvm.exec ∧ c.code = mB M ∧ c.maxLocals = mL M ∧ s.vm.findClass (cN (mO M)) = some m.cls ∧ (∀ w ∈ Wt, w.before args s = true) ∧ meth.sig.returnType = mR M ∧ meth.locks = false
/-- AT A PLACE of a method, with these locals, stack and memory: it returns so that Q -/
def Tm (M : Nat) (Q : Pst) (pc : Nat) (L : Lcs) (st : List Value) (S : Mem) : Prop :=
  ∀ (p : Program) (l : Launch) (e : Env) (R : Room) (s : State) (m : MethodId) (args : Array Value) (below : List Frame) (meth : Method) (c : Code) (dC : Nat → ClassId) (dI : Nat → Nat → Nat) (cA : ClassId) (ad : Nat → Nat) (A : Nat → Prop),
    Cx M p s m args meth c → va_K (dC, dI) vwCl [(cA, .int)] s → (∀ q, s.heap.size ≤ q → A q) → mF M ≤ R.frames → mQ M ≤ R.locals →
    Wd p l e R s m args below meth c 0 0 (MQ below (QX (mR M) Q (BX dC dI cA ad A) A) args s 0 0 A) dC dI cA ad A (mL M) pc L st S
theorem QX_i {M : Nat} {Q : Pst} {B : Mem → State → Prop} {A : Nat → Prop} {args : Array Value} {s t : State} {x : Int32} {S : Mem} (hr : mR M = some .int ∨ mR M = some .boolean) (h : Q (some (.int x)) S) (hB : B S t) (hF : va_F A s t) : QX (mR M) Q B A args s (.returned (some (.int x))) t := by
  rcases hr with hr | hr <;> rw [hr] <;> exact ⟨⟨x, S, rfl, h, hB⟩, hF⟩
theorem QX_l {M : Nat} {Q : Pst} {B : Mem → State → Prop} {A : Nat → Prop} {args : Array Value} {s t : State} {x : Int64} {S : Mem} (hr : mR M = some .long) (h : Q (some (.long x)) S) (hB : B S t) (hF : va_F A s t) : QX (mR M) Q B A args s (.returned (some (.long x))) t := by
  rw [hr]; exact ⟨⟨x, S, rfl, h, hB⟩, hF⟩
theorem QX_v {M : Nat} {Q : Pst} {B : Mem → State → Prop} {A : Nat → Prop} {args : Array Value} {s t : State} {S : Mem} (hr : mR M = none) (h : Q none S) (hB : B S t) (hF : va_F A s t) : QX (mR M) Q B A args s (.returned none) t := by
  rw [hr]; exact ⟨⟨S, rfl, h, hB⟩, hF⟩
/-- one instruction of a method's code, and then K -/
def exec1 (C : Cst) (cd : Nat → Option PO) (Q : Pst) (K : Nat → Lcs → List Value → Mem → Prop) (pc : Nat) (L : Lcs) (st : List Value) (S : Mem) : Prop := match cd pc with
  | none => False
  | some o => exec C none o L st S Q K
set_option maxHeartbeats 4000000 in
theorem T_go {M : Nat} {cd : Nat → Option PO} (hcd : chkAll M cd) {Q : Pst} {K : Nat → Lcs → List Value → Mem → Prop} (hKT : ∀ pc L st S, K pc L st S → Tm M Q pc L st S) {pc : Nat} {L : Lcs} {st : List Value} {S : Mem} (h : exec1 OK cd Q K pc L st S) : Tm M Q pc L st S := by
  intro p l e R s m args below meth c dC dI cA ad A hCx hK hA hR1 hR2
  unfold exec1 at h
  cases hc : cd pc with
  | none => rw [hc] at h; exact h.elim
  | some o =>
    rw [hc] at h
    obtain ⟨hx, hb, hml, hown, hts, hret, hlk⟩ := hCx
    refine sim1 (M := M) hx hb hml hown hts hK hA hR1 hR2 (Nat.zero_le _) (Nat.zero_le _) (fun n xs q => by cases q) ?_ ?_ ?_ ?_ (hcd pc o hc) h
    · intro pc L S x hd hr hQ H locs ls hP hD hS hl
      rcases hr with hr | ⟨hr, h01⟩
      · exact W.iret hx hb (hret.trans hr) (fun t ht hW => QX_i (Or.inl hr) hQ ⟨by rw [ht]; exact hP, va_K.moved hW.alike hK, hD⟩ (hS.F ht)) hS.2.2 hd (hlocks := hlk)
      · exact W.zret hx hb (hret.trans hr) (by rcases h01 with rfl | rfl <;> rfl) (fun t ht hW => QX_i (Or.inr hr) hQ ⟨by rw [ht]; exact hP, va_K.moved hW.alike hK, hD⟩ (hS.F ht)) hS.2.2 hd (hlocks := hlk)
    · intro pc L S x hd hr hQ H locs ls hP hD hS hl
      exact W.lret hx hb (hret.trans hr) (fun t ht hW => QX_l hr hQ ⟨by rw [ht]; exact hP, va_K.moved hW.alike hK, hD⟩ (hS.F ht)) hS.2.2 hd (hlocks := hlk)
    · intro pc L S hd hr hQ H locs ls hP hD hS hl
      exact W.vret hx hb (hret.trans hr) (fun t ht hW => QX_v hr hQ ⟨by rw [ht]; exact hP, va_K.moved hW.alike hK, hD⟩ (hS.F ht)) hS.2.2 hd (hlocks := hlk)
    · intro pc L st S hs
      exact hKT pc L st S hs p l e R s m args below meth c dC dI cA ad A ⟨hx, hb, hml, hown, hts, hret, hlk⟩ hK hA hR1 hR2
set_option maxHeartbeats 4000000 in
theorem OK_go {M : Nat} {as : List Value} {S : Mem} {Q : Pst} (hM : M ∈ mks) (hn : (entL as).length ≤ mL M) (h : Tm M Q 0 (ent (mL M) as) [] S) : OK M as S Q := by
  intro l dC dI cA ad sz
  obtain ⟨hcode, hkw, hini, hsel, hcls, hpl, hpd⟩ := mo_ok M hM
  refine Met.ofW (cc := mB M) (maxL := mL M) (ret := mR M) hpl.2 rfl ?_
  intro p e s m args below meth c s₁ B hml hv
  obtain ⟨rfl, hsz, hP, hK, hD0⟩ := hv
  have hts := atoms_spec (ws := mW M) B.pre
  have hown : s.vm.findClass (mY M).cls = some m.cls := findClass_of_methodNamed B.named
  subst hsz
  have hl := lvL_ent (ad := ad) hn
  rw [lg_entry_eq]
  exact h p l e _ s m _ below meth c dC dI cA ad _ ⟨B.exec, B.bytes, hml, by rw [← hcls]; exact hown, fun w hw => hts w (List.mem_cons_of_mem _ hw), B.returns, B.notSynchronized⟩ hK (fun q hq => Or.inr hq) (Nat.le_refl _) (Nat.le_refl _) s.heap [] _ hP hD0.self va_S.rf hl
/-- THE TWO RULES, over any relation that has them: what is proved of methods below rests on these alone -/
def Rules (C : Cst) (T : Nat → Pst → Nat → Lcs → List Value → Mem → Prop) : Prop :=
  (∀ (M : Nat) (cd : Nat → Option PO), chkAll M cd → ∀ (Q : Pst) (K : Nat → Lcs → List Value → Mem → Prop), (∀ pc L st S, K pc L st S → T M Q pc L st S) → ∀ (pc : Nat) (L : Lcs) (st : List Value) (S : Mem), exec1 C cd Q K pc L st S → T M Q pc L st S) ∧
  ∀ (M : Nat) (as : List Value) (S : Mem) (Q : Pst), M ∈ mks → (entL as).length ≤ mL M → T M Q 0 (ent (mL M) as) [] S → C M as S Q
theorem rules_hold : Rules OK Tm := ⟨fun _ _ hcd _ _ hK _ _ _ _ h => T_go hcd hK h, fun _ _ _ _ hM hn h => OK_go hM hn h⟩
