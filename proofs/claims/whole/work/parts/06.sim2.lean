/-! THE PURE MACHINE STANDS FOR THE MACHINE: one instruction -/
def chkI (M pc : Nat) (i : Instr) (n a b d e : Nat) (v : Int32) (sw : List (Int32 × Nat)) : Bool := match i with
  | .iconst k => decide (n = pc + 1 ∧ Int32.ofInt k = v)
  | .bipush k => decide (n = pc + 2 ∧ (Int8.ofInt k).toInt32 = v)
  | .sipush k => decide (n = pc + 3 ∧ (Int16.ofInt k).toInt32 = v)
  | .ldc x => decide (n = pc + 2 ∧ kon[d]? = some (mO M, x, v))
  | .ldc_w x => decide (n = pc + 3 ∧ kon[d]? = some (mO M, x, v))
  | .lconst k => decide (n = pc + 1 ∧ a = k.val)
  | .ldc2_w x => decide (n = pc + 3 ∧ konL[d]? = some (mO M, x, a))
  | .iload k => decide (n = pc + 2 ∧ a = k)
  | .iload_n k => decide (n = pc + 1 ∧ a = k.val)
  | .lload k => decide (n = pc + 2 ∧ a = k)
  | .lload_n k => decide (n = pc + 1 ∧ a = k.val)
  | .aload_n k => decide (n = pc + 1 ∧ a = k.val)
  | .istore k => decide (n = pc + 2 ∧ a = k ∧ a < mL M)
  | .istore_n k => decide (n = pc + 1 ∧ a = k.val ∧ a < mL M)
  | .lstore k => decide (n = pc + 2 ∧ a = k ∧ a + 1 < mL M)
  | .lstore_n k => decide (n = pc + 1 ∧ a = k.val ∧ a + 1 < mL M)
  | .astore_n k => decide (n = pc + 1 ∧ a = k.val ∧ a < mL M)
  | .iinc k c => decide (n = pc + 3 ∧ a = k ∧ Int32.ofInt c = v ∧ a < mL M)
  | .goto off => decide (n = pc + 3 ∧ (pc : Int) + off = (a : Int))
  | .ifCond _ off => decide (n = pc + 3 ∧ (pc : Int) + off = (a : Int))
  | .if_icmp _ off => decide (n = pc + 3 ∧ (pc : Int) + off = (a : Int))
  | .tableswitch dflt lo hi offs => decide ((pc : Int) + dflt = (a : Int) ∧ hi + 1 = lo + (offs.size : Int) ∧ -2147483648 ≤ lo ∧ hi ≤ 2147483647 ∧ sw = (List.range offs.size).map (fun j : Nat => (Int32.ofInt (lo + (j : Int)), ((pc : Int) + offs.getD j 0).toNat)) ∧ (List.range offs.size).all (fun j : Nat => decide (0 ≤ (pc : Int) + offs.getD j 0)) = true)
  | .lookupswitch dflt ps => decide ((pc : Int) + dflt = (a : Int) ∧ (ps.toList.zip (ps.toList.drop 1)).all (fun (a, next) => a.1 < next.1) = true ∧ sw = ps.toList.map (fun q => (Int32.ofInt q.1, ((pc : Int) + q.2).toNat)) ∧ ps.toList.all (fun q => decide (-2147483648 ≤ q.1 ∧ q.1 ≤ 2147483647 ∧ 0 ≤ (pc : Int) + q.2)) = true)
  | .getfield x => decide (n = pc + 3 ∧ flk[d]? = some (mO M, x, a, b))
  | .putfield x => decide (n = pc + 3 ∧ flk[d]? = some (mO M, x, a, b)) && ptk a b e
  | .invokevirtual x => decide (n = pc + 3 ∧ clk[d]? = some (mO M, x, a) ∧ a ∈ mks ∧ mS a = false ∧ b = mA a ∧ e = ciO (mO a) ∧ mF a + 1 ≤ mF M ∧ 19 + mL a + mQ a ≤ mQ M)
  | .invokestatic x => decide (n = pc + 3 ∧ clk[d]? = some (mO M, x, a)) && (match e with
    | 0 => decide (a ∈ mks ∧ mS a = true ∧ b = mA a ∧ mF a + 1 ≤ mF M ∧ 19 + mL a + mQ a ≤ mQ M)
    | 1 => decide (a = mJ9_abs_0f7a4 ∧ 1 ≤ mF M ∧ 21 ≤ mQ M)
    | 2 => decide (a = mJ9_max_7cf53 ∧ 1 ≤ mF M ∧ 21 ≤ mQ M)
    | _ => false)
  | .ireturn => decide (n = pc + 1 ∧ ((a = 0 ∧ mR M = some .int) ∨ (a = 1 ∧ mR M = some .boolean)))
  | .lreturn => decide (n = pc + 1 ∧ mR M = some .long)
  | .return_ => decide (n = pc + 1 ∧ mR M = none)
  | _ => decide (n = pc + 1)
def chk (M pc : Nat) (o : PO) : Bool := match o with
  | (i, n, a, b, d, e, v, sw) => decide (decode (mB M) pc = .ok (i, n - pc)) && chkI M pc i n a b d e v sw
section SIM
variable {p : Program} {l : Launch} {e : Env} {R : Room} {s : State} {m : MethodId} {args : Array Value} {below : List Frame} {meth : Method} {c : Code} {cells slots : Nat} {Z : State → Prop} {dC : Nat → ClassId} {dI : Nat → Nat → Nat} {cA : ClassId} {ad : Nat → Nat} {A : Nat → Prop}
/-- at a place of a method, with these locals, stack and memory, the machine comes to Z -/
def Wd (p : Program) (l : Launch) (e : Env) (R : Room) (s : State) (m : MethodId) (args : Array Value) (below : List Frame) (meth : Method) (c : Code) (cells slots : Nat) (Z : State → Prop) (dC : Nat → ClassId) (dI : Nat → Nat → Nat) (cA : ClassId) (ad : Nat → Nat) (A : Nat → Prop) (nL pc : Nat) (L : Lcs) (st : List Value) (S : Mem) : Prop :=
  ∀ (H : Heap) (locs : List Loc) (ls : Array Slot), va_P (dC, dI) vwCl (wld cA ad S) H → va_D A (wld cA ad S) → va_S A s.heap H locs → lvL ad ls nL L → W p l e R s m args below meth c H locs cells slots Z (F0 m pc ls (st.map (tv ad)))
def QX (r : Option FieldType) (Q : Pst) (B : Mem → State → Prop) (A : Nat → Prop) : Array Value → State → Outcome → State → Prop := match r with
  | none => va_Qv (fun u : Mem => Q none u) B A
  | some .long => va_Ql (fun (x : Int64) (u : Mem) => Q (some (.long x)) u) B A
  | some _ => va_Qi (fun (x : Int32) (u : Mem) => Q (some (.int x)) u) B A
def BX (dC : Nat → ClassId) (dI : Nat → Nat → Nat) (cA : ClassId) (ad : Nat → Nat) (A : Nat → Prop) (u : Mem) (t : State) : Prop := va_P (dC, dI) vwCl (wld cA ad u) t.heap ∧ va_K (dC, dI) vwCl [(cA, .int)] t ∧ va_D A (wld cA ad u)
def mW (k : Nat) : List Cond := .code (mY k) (mB k) (mL k) (mR k) :: Wt
def PX (dC : Nat → ClassId) (dI : Nat → Nat → Nat) (cA : ClassId) (ad : Nat → Nat) (sz : Nat) (S : Mem) (U : State) : Prop := U.heap.size = sz ∧ va_P (dC, dI) vwCl (wld cA ad S) U.heap ∧ va_K (dC, dI) vwCl [(cA, .int)] U ∧ va_D (fun _ => True) (wld cA ad S)
/-- THE CONTRACT of a method over the whole world: called so, it returns so that Q -/
def OK (k : Nat) (as : List Value) (S : Mem) (Q : Pst) : Prop := ∀ (l : Launch) (dC : Nat → ClassId) (dI : Nat → Nat → Nat) (cA : ClassId) (ad : Nat → Nat) (sz : Nat),
  Met l (mY k) (mW k) ({ frames := mF k, cells := 0, slots := 0, locals := mQ k }) (va_Pc (as.map (tv ad)) (PX dC dI cA ad sz S)) (QX (mR k) Q (BX dC dI cA ad (va_A (wld cA ad S) sz)) (va_A (wld cA ad S) sz)) 0 0 (va_A (wld cA ad S) sz)
theorem Wt_code {k : Nat} (h : k ∈ mks) : ∀ w ∈ mW k, w ∈ Wt := fun w hw => (List.mem_cons.mp hw).elim (fun q => q ▸ (mo_ok k h).1) id
theorem Wt_good {ws : List Cond} (h : ∀ w ∈ ws, w ∈ Wt) : GoodIn Wt ws := fun w hw => ⟨h w hw, good_of_word (List.mem_filter.mp (h w hw)).2⟩
theorem PX_blind {dC : Nat → ClassId} {dI : Nat → Nat → Nat} {cA : ClassId} {ad : Nat → Nat} {sz : Nat} {S : Mem} {as : List Value} : FrameBlind (va_Pc as (PX dC dI cA ad sz S)) := fun a U g mk q => by
  obtain ⟨q0, q1, qP, qK, qD⟩ := q
  exact ⟨q0, q1, qP, va_K.moved (u := U) (U := U.calling g mk a) (Vm.Alike.refl U.vm) qK, qD⟩
theorem sle_cat {ad : Nat → Nat} : ∀ (n : Nat) (r : List Value), sle n r = true → ((r.map (tv ad)).map fun v => v.category).sum ≤ 2 * n
  | n, [], _ => by simp
  | 0, _ :: _, h => by cases h
  | n + 1, v :: r, h => by
    have := sle_cat (ad := ad) n r h
    have h2 : (tv ad v).category ≤ 2 := by cases v <;> simp [tv, Value.category]
    simp only [List.map_cons, List.sum_cons]
    omega
theorem tk_inv : ∀ (n : Nat) (acc st as r : List Value), tk n acc st = some (as, r) → ∃ hd, as = hd ++ acc ∧ hd.length = n ∧ st = hd.reverse ++ r
  | 0, acc, st, as, r, h => by
    unfold tk at h
    cases h
    exact ⟨[], rfl, rfl, rfl⟩
  | n + 1, acc, [], as, r, h => by unfold tk at h; cases h
  | n + 1, acc, v :: st, as, r, h => by
    unfold tk at h
    obtain ⟨hd, h1, h2, h3⟩ := tk_inv n (v :: acc) st as r h
    exact ⟨hd ++ [v], by rw [h1]; simp, by simp [h2], by rw [h3]; simp⟩
end SIM
