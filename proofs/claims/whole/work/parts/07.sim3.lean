theorem xs1_inv {st : List Value} {k : Int32 → List Value → Prop} (h : xs1 st k) : ∃ x r, st = .int x :: r ∧ k x r := by
  unfold xs1 at h
  split at h
  · exact ⟨_, _, rfl, h⟩
  · exact h.elim
theorem xs2_inv {st : List Value} {k : Int32 → Int32 → List Value → Prop} (h : xs2 st k) : ∃ x y r, st = .int y :: .int x :: r ∧ k x y r := by
  unfold xs2 at h
  split at h
  · exact ⟨_, _, _, rfl, h⟩
  · exact h.elim
theorem xl1_inv {st : List Value} {k : Int64 → List Value → Prop} (h : xl1 st k) : ∃ x r, st = .long x :: r ∧ k x r := by
  unfold xl1 at h
  split at h
  · exact ⟨_, _, rfl, h⟩
  · exact h.elim
theorem xl2_inv {st : List Value} {k : Int64 → Int64 → List Value → Prop} (h : xl2 st k) : ∃ x y r, st = .long y :: .long x :: r ∧ k x y r := by
  unfold xl2 at h
  split at h
  · exact ⟨_, _, _, rfl, h⟩
  · exact h.elim
theorem xr1_inv {st : List Value} {k : Nat → List Value → Prop} (h : xr1 st k) : ∃ x r, st = .ref x :: r ∧ k x r := by
  unfold xr1 at h
  split at h
  · exact ⟨_, _, rfl, h⟩
  · exact h.elim
theorem xir_inv {st : List Value} {k : Nat → Int32 → List Value → Prop} (h : xir st k) : ∃ q x r, st = .int x :: .ref q :: r ∧ k q x r := by
  unfold xir at h
  split at h
  · exact ⟨_, _, _, rfl, h⟩
  · exact h.elim
theorem xiir_inv {st : List Value} {k : Nat → Int32 → Int32 → List Value → Prop} (h : xiir st k) : ∃ q j x r, st = .int x :: .int j :: .ref q :: r ∧ k q j x r := by
  unfold xiir at h
  split at h
  · exact ⟨_, _, _, _, rfl, h⟩
  · exact h.elim
theorem xdup_inv {st : List Value} {k : List Value → Prop} (h : xdup st k) : ∃ v r, st = v :: r ∧ v.category = 1 ∧ k (v :: v :: r) := by
  unfold xdup at h
  split at h
  · exact ⟨_, _, rfl, rfl, h⟩
  · exact ⟨_, _, rfl, rfl, h⟩
  · exact h.elim
theorem xldi_inv {v : Option (Option Value)} {k : Int32 → Prop} (h : xldi v k) : ∃ x, v = some (some (.int x)) ∧ k x := by
  unfold xldi at h
  split at h
  · exact ⟨_, rfl, h⟩
  · exact h.elim
theorem xldl_inv {v : Option (Option Value)} {k : Int64 → Prop} (h : xldl v k) : ∃ x, v = some (some (.long x)) ∧ k x := by
  unfold xldl at h
  split at h
  · exact ⟨_, rfl, h⟩
  · exact h.elim
theorem xlda_inv {v : Option (Option Value)} {k : Nat → Prop} (h : xlda v k) : ∃ x, v = some (some (.ref x)) ∧ k x := by
  unfold xlda at h
  split at h
  · exact ⟨_, rfl, h⟩
  · exact h.elim
theorem xfld_inv {f : Option (Option Nat)} {k0 : Prop} {k1 : Nat → Prop} (h : xfld f k0 k1) : (f = some none ∧ k0) ∨ ∃ t, f = some (some t) ∧ k1 t := by
  unfold xfld at h
  split at h
  · exact Or.inl ⟨rfl, h⟩
  · exact Or.inr ⟨_, rfl, h⟩
  · exact h.elim
theorem xlen_inv {f : Option Nat} {sc : Option (Nat × (Nat → Int32))} {k0 : Nat → Prop} {k1 : Nat → (Nat → Int32) → Prop} (h : xlen f sc k0 k1) : (∃ n, f = some n ∧ k0 n) ∨ ∃ n xs, sc = some (n, xs) ∧ k1 n xs := by
  unfold xlen at h
  split at h
  · exact Or.inl ⟨_, rfl, h⟩
  · split at h
    · exact Or.inr ⟨_, _, rfl, h⟩
    · exact h.elim
theorem xvir_inv {t : Option (List Value × List Value)} {e : Nat} {k : List Value → List Value → Prop} (h : xvir t e k) : ∃ q as r, t = some (.ref q :: as, r) ∧ cls q = some e ∧ sle 4 r = true ∧ k (.ref q :: as) r := by
  unfold xvir at h
  split at h
  · next q as r =>
    cases hc : cls q with
    | none => rw [hc] at h; exact h.elim
    | some c =>
      rw [hc] at h
      cases hb : (Nat.beq c e && sle 4 r) with
      | false => simp only [hb, cond_false] at h
      | true =>
        simp only [hb, cond_true] at h
        obtain ⟨h1, h2⟩ := (Bool.and_eq_true _ _).mp hb
        exact ⟨q, as, r, rfl, by rw [hc, Nat.eq_of_beq_eq_true h1], h2, h⟩
  · exact h.elim
theorem xsta_inv {t : Option (List Value × List Value)} {k : List Value → List Value → Prop} (h : xsta t k) : ∃ as r, t = some (as, r) ∧ sle 4 r = true ∧ k as r := by
  unfold xsta at h
  split at h
  · next as r =>
    cases hb : sle 4 r with
    | false => simp only [hb, cond_false] at h
    | true =>
      simp only [hb, cond_true] at h
      exact ⟨as, r, rfl, hb, h⟩
  · exact h.elim
theorem xri_inv {st : List Value} {a : Nat} {k : Int32 → Prop} (h : xri st a k) : ∃ x, st = [.int x] ∧ (¬ a = 0 → x = 0 ∨ x = 1) ∧ k x := by
  unfold xri at h
  split at h
  · split at h
    · exact ⟨_, rfl, fun q => absurd rfl q, h⟩
    · exact ⟨_, rfl, fun _ => h.1, h.2⟩
  · exact h.elim
theorem xrl_inv {st : List Value} {k : Int64 → Prop} (h : xrl st k) : ∃ x, st = [.long x] ∧ k x := by
  unfold xrl at h
  split at h
  · exact ⟨_, rfl, h⟩
  · exact h.elim
theorem xrv_inv {st : List Value} {k : Prop} (h : xrv st k) : st = [] ∧ k := by
  unfold xrv at h
  split at h
  · exact ⟨rfl, h⟩
  · exact h.elim
theorem xbo_inv {e : Nat} {x : Int32} {k : Prop} (h : xbo e x k) : (¬ e = 0 → x = 0 ∨ x = 1) ∧ k := by
  unfold xbo at h
  split at h
  · exact ⟨fun q => absurd rfl q, h⟩
  · exact ⟨fun _ => h.1, h.2⟩
theorem swx_inv {x : Int32} {nx : Nat → Prop} {d : Nat} : ∀ {sw : List (Int32 × Nat)}, swx x nx d sw → (∃ t, (x, t) ∈ sw ∧ nx t) ∨ ((∀ q ∈ sw, ¬ x = q.1) ∧ nx d)
  | [], h => Or.inr ⟨fun _ q => absurd q List.not_mem_nil, h⟩
  | (v, t) :: r, h => by
    unfold swx at h
    by_cases hx : x = v
    · subst hx
      exact Or.inl ⟨t, List.mem_cons_self, h.1 rfl⟩
    · rcases swx_inv (h.2 hx) with ⟨t', h1, h2⟩ | ⟨h1, h2⟩
      · exact Or.inl ⟨t', List.mem_cons_of_mem _ h1, h2⟩
      · exact Or.inr ⟨fun q hq => (List.mem_cons.mp hq).elim (fun z => by rw [z]; exact hx) (h1 q), h2⟩
/-- the first key that fits -/
def swf (x : Int32) (d : Nat) : List (Int32 × Nat) → Nat
  | [] => d
  | (v, t) :: r => if x = v then t else swf x d r
theorem swx_fst {x : Int32} {nx : Nat → Prop} {d : Nat} : ∀ {sw : List (Int32 × Nat)}, swx x nx d sw → nx (swf x d sw)
  | [], h => h
  | (v, t) :: r, h => by
    unfold swx at h
    unfold swf
    by_cases hx : x = v
    · rw [if_pos hx]; exact h.1 hx
    · rw [if_neg hx]; exact swx_fst (h.2 hx)
theorem i32_ofInt_toInt {k : Int} (h1 : -2147483648 ≤ k) (h2 : k ≤ 2147483647) : (Int32.ofInt k).toInt = k := by
  exact Int32.toInt_ofInt_of_le (by omega) (by omega)
theorem swf_ne {x v : Int32} {d t : Nat} {r : List (Int32 × Nat)} (h : ¬ x = v) : swf x d ((v, t) :: r) = swf x d r := by simp [swf, h]
theorem swf_eq {x v : Int32} {d t : Nat} {r : List (Int32 × Nat)} (h : x = v) : swf x d ((v, t) :: r) = t := by simp [swf, h]
theorem swf_look {x : Int32} {d : Nat} {pc : Nat} {dflt : Int} (hd : (pc : Int) + dflt = (d : Int)) : ∀ (ps : List (Int × Int)), ps.all (fun q => decide (-2147483648 ≤ q.1 ∧ q.1 ≤ 2147483647 ∧ 0 ≤ (pc : Int) + q.2)) = true → (pc : Int) + Op.lookupswitch.offset ps dflt x.toInt = ((swf x d (ps.map (fun q => (Int32.ofInt q.1, ((pc : Int) + q.2).toNat))) : Nat) : Int)
  | [], _ => hd
  | (k, o) :: ps, h => by
    simp only [List.all_cons, Bool.and_eq_true, decide_eq_true_eq] at h
    obtain ⟨⟨h1, h2, h3⟩, h4⟩ := h
    have ih := swf_look (x := x) hd ps (by simpa using h4)
    have e1 : (x = Int32.ofInt k) ↔ (k = x.toInt) := by
      rw [← Int32.toInt_inj, i32_ofInt_toInt h1 h2]
      exact eq_comm
    simp only [List.map_cons]
    by_cases hk : k = x.toInt
    · rw [swf_eq (e1.mpr hk)]
      unfold Op.lookupswitch.offset
      rw [if_pos hk]; omega
    · rw [swf_ne (fun q => hk (e1.mp q))]
      unfold Op.lookupswitch.offset
      rw [if_neg hk]; exact ih
theorem swf_table {x : Int32} {d : Nat} {pc : Nat} {dflt lo hi : Int} {offs : Array Int} (hd : (pc : Int) + dflt = (d : Int)) (hs : hi + 1 = lo + (offs.size : Int)) (h1 : -2147483648 ≤ lo) (h2 : hi ≤ 2147483647)
    (hp : (List.range offs.size).all (fun j : Nat => decide (0 ≤ (pc : Int) + offs.getD j 0)) = true) :
    ((x.toInt < lo ∨ hi < x.toInt) ∧ swf x d ((List.range offs.size).map (fun j : Nat => (Int32.ofInt (lo + (j : Int)), ((pc : Int) + offs.getD j 0).toNat))) = d) ∨
    (¬ x.toInt < lo ∧ ¬ hi < x.toInt ∧ ∃ off, offs[(x.toInt - lo).toNat]? = some off ∧ (pc : Int) + off = ((swf x d ((List.range offs.size).map (fun j : Nat => (Int32.ofInt (lo + (j : Int)), ((pc : Int) + offs.getD j 0).toNat))) : Nat) : Int)) := by
  have key : ∀ (n : Nat), n ≤ offs.size → ∀ (r : List (Int32 × Nat)), (∀ j : Nat, j < n → ¬ x.toInt = lo + (j : Int)) → swf x d ((List.range n).map (fun j : Nat => (Int32.ofInt (lo + (j : Int)), ((pc : Int) + offs.getD j 0).toNat)) ++ r) = swf x d r := by
    intro n
    induction n with
    | zero => intro _ r _; rfl
    | succ n ih =>
      intro hn r hj
      rw [List.range_succ, List.map_append, List.append_assoc, ih (by omega) _ (fun j h => hj j (by omega))]
      refine swf_ne fun q => ?_
      refine hj n (by omega) ?_
      rw [q, i32_ofInt_toInt (by omega) (by omega)]
  by_cases hlo : x.toInt < lo
  · left
    refine ⟨Or.inl hlo, ?_⟩
    have := key offs.size (Nat.le_refl _) [] (fun j _ => by omega)
    rw [List.append_nil] at this
    exact this
  · by_cases hhi : hi < x.toInt
    · left
      refine ⟨Or.inr hhi, ?_⟩
      have := key offs.size (Nat.le_refl _) [] (fun j h => by omega)
      rw [List.append_nil] at this
      exact this
    · right
      refine ⟨hlo, hhi, ?_⟩
      obtain ⟨n, hn⟩ : ∃ n : Nat, x.toInt - lo = (n : Int) := ⟨(x.toInt - lo).toNat, by omega⟩
      have hlt : n < offs.size := by omega
      have e0 : (x.toInt - lo).toNat = n := by omega
      rw [e0]
      refine ⟨offs.getD n 0, ?_, ?_⟩
      · rw [Array.getD_eq_getD_getElem?, Array.getElem?_eq_getElem hlt]; rfl
      · have hz := List.all_eq_true.mp hp n (List.mem_range.mpr hlt)
        have hz := of_decide_eq_true hz
        obtain ⟨k, hk⟩ : ∃ k, offs.size = (n + 1) + k := ⟨offs.size - (n + 1), by omega⟩
        have hx : x = Int32.ofInt (lo + (n : Int)) := by
          rw [← Int32.toInt_inj, i32_ofInt_toInt (by omega) (by omega)]
          omega
        rw [hk, List.range_add, List.map_append, List.range_succ, List.map_append, List.append_assoc, key n (by omega) _ (fun j h => by omega)]
        refine Eq.trans ?_ (congrArg Nat.cast (swf_eq (r := _) hx).symm)
        omega
