/-! THE PURE MACHINE STANDS FOR THE MACHINE: worlds and locals -/
def tv (ad : Nat → Nat) : Value → Value
  | .ref k => .ref (ad k)
  | v => v
def celf (ad : Nat → Nat) (f : Nat → Int32) (ts : List (Option Nat)) : List Value := (List.range ts.length).map fun j => match ts[j]? with
  | some (some t) => .ref (ad t)
  | _ => .int (f j)
def cel (cA : ClassId) (ad : Nat → Nat) (f : Nat → Int32) : Shp → va_E
  | .inl n => .inl (cA, n, .inl f)
  | .inr (ci, ts) => .inr (ci, celf ad f ts)
def wld (cA : ClassId) (ad : Nat → Nat) (S : Mem) : va_W := (List.range 42).map fun k => (ad k, cel cA ad (S k) (shps.getD k (.inl 0)))
theorem shps_len : shps.length = 42 := rfl
theorem wld_at {cA : ClassId} {ad : Nat → Nat} {S : Mem} (k : Nat) : (wld cA ad S)[k]? = if k < 42 then some (ad k, cel cA ad (S k) (shps.getD k (.inl 0))) else none := by
  unfold wld
  rw [List.getElem?_map]
  by_cases h : k < 42
  · rw [List.getElem?_range h, if_pos h]; rfl
  · rw [if_neg h, List.getElem?_eq_none (by simp; omega)]; rfl
theorem shp_lt {k : Nat} {sh : Shp} (h : shps[k]? = some sh) : k < 42 := by rw [← shps_len]; exact (List.getElem?_eq_some_iff.mp h).1
theorem shp_d {k : Nat} {sh : Shp} (h : shps[k]? = some sh) : shps.getD k (.inl 0) = sh := by rw [List.getD_eq_getElem?_getD, h]; rfl
theorem wld_get {cA : ClassId} {ad : Nat → Nat} {S : Mem} {k : Nat} {sh : Shp} (h : shps[k]? = some sh) : (wld cA ad S)[k]? = some (ad k, cel cA ad (S k) sh) := by
  rw [wld_at, if_pos (shp_lt h), shp_d h]
theorem cls_inv {k c : Nat} (h : cls k = some c) : ∃ ts, shps[k]? = some (.inr (c, ts)) := by
  unfold cls at h
  split at h
  · next c' ts' he => cases h; exact ⟨_, he⟩
  · cases h
theorem alen_inv {k n : Nat} (h : alen k = some n) : shps[k]? = some (.inl n) := by
  unfold alen at h
  split at h
  · next n' he => cases h; exact he
  · cases h
theorem fld_inv {k a b : Nat} {r : Option Nat} (h : fld k a b = some r) : ∃ ts, shps[k]? = some (.inr (a, ts)) ∧ ts[b]? = some r := by
  unfold fld at h
  split at h
  · next c' ts' he =>
    cases hb : Nat.beq c' a
    · rw [hb] at h; cases h
    · rw [hb] at h
      have := Nat.eq_of_beq_eq_true hb
      subst this
      exact ⟨_, he, h⟩
  · cases h
theorem up_same {S : Mem} {k b : Nat} {x : Int32} : up S k b x k = upd (S k) b x := by funext j; simp [up, upd]
theorem up_other {S : Mem} {k b i : Nat} {x : Int32} (h : i ≠ k) : up S k b x i = S i := by funext j; simp [up, h]
theorem wld_set_of {cA : ClassId} {ad : Nat → Nat} {S : Mem} {k b : Nat} {x : Int32} {sh : Shp} {q : va_E} (h : shps[k]? = some sh) (hq : cel cA ad (upd (S k) b x) sh = q) : (wld cA ad S).set k (ad k, q) = wld cA ad (up S k b x) := by
  have hk := shp_lt h
  apply List.ext_getElem?
  intro i
  by_cases hi : i = k
  · subst hi
    rw [List.getElem?_set_self (by simp [wld, hk]), wld_get h, up_same, hq]
  · rw [List.getElem?_set_ne (Ne.symm hi), wld_at, wld_at, up_other hi]
def lvL (ad : Nat → Nat) (ls : Array Slot) (nL : Nat) (L : Lcs) : Prop := lv_wf ls ∧ ls.size = nL ∧ ∀ (i : Nat) (v : Value), L[i]? = some (some v) → ls[i]? = some (.val (tv ad v))
def asl (ad : Nat → Nat) (L : Lcs) : List (Nat × Value) := (List.range L.length).filterMap fun i => match L[i]? with
  | some (some v) => some (i, tv ad v)
  | _ => none
theorem asl_mem {ad : Nat → Nat} {L : Lcs} {i : Nat} {v : Value} (h : L[i]? = some (some v)) : (i, tv ad v) ∈ asl ad L := by
  refine List.mem_filterMap.mpr ⟨i, List.mem_range.mpr (List.getElem?_eq_some_iff.mp h).1, ?_⟩
  rw [h]
theorem lvL_has {ad : Nat → Nat} {ls : Array Slot} {nL : Nat} {L : Lcs} (h : lvL ad ls nL L) : lv_has ls nL (asl ad L) := by
  refine ⟨h.2.1, h.1, fun q hq => ?_⟩
  obtain ⟨i, -, hi⟩ := List.mem_filterMap.mp hq
  split at hi
  · next v hv => cases hi; exact h.2.2 i v hv
  · cases hi
theorem kl_at {ad : Nat → Nat} {L : Lcs} {a i : Nat} {w : Value} (h : (kl L a)[i]? = some (some w)) : L[i]? = some (some w) ∧ ¬ (i + 1 = a ∧ (tv ad w).category = 2) := by
  cases a with
  | zero => exact ⟨h, fun q => by omega⟩
  | succ j =>
    have key : ∀ (hj : (L.set j none)[i]? = some (some w)), L[i]? = some (some w) ∧ ¬ (i + 1 = j + 1 ∧ (tv ad w).category = 2) := by
      intro hj
      by_cases hij : j = i
      · subst hij
        rw [List.getElem?_set] at hj
        simp at hj
      · rw [List.getElem?_set_ne hij] at hj
        exact ⟨hj, fun q => hij (by omega)⟩
    have fin : L[i]? = some (some w) → (∀ x, ¬ L[j]? = some (some (.long x))) → (∀ x, ¬ L[j]? = some (some (.double x))) → L[i]? = some (some w) ∧ ¬ (i + 1 = j + 1 ∧ (tv ad w).category = 2) := by
      intro h9 h1 h2
      refine ⟨h9, fun q => ?_⟩
      have hij : i = j := by omega
      subst hij
      cases w with
      | long v => exact h1 v h9
      | double v => exact h2 v h9
      | _ => simp [tv, Value.category] at q
    have hk : kl L (j + 1) = (match L[j]? with
      | some (some (.long _)) => L.set j none
      | some (some (.double _)) => L.set j none
      | _ => L) := rfl
    rw [hk] at h
    rcases hj : L[j]? with _ | _ | u
    · rw [hj] at h; exact fin h (fun x q => by rw [hj] at q; cases q) (fun x q => by rw [hj] at q; cases q)
    · rw [hj] at h; exact fin h (fun x q => by rw [hj] at q; cases q) (fun x q => by rw [hj] at q; cases q)
    · cases u with
      | long x => rw [hj] at h; exact key h
      | double x => rw [hj] at h; exact key h
      | _ => rw [hj] at h; exact fin h (fun x q => by rw [hj] at q; cases q) (fun x q => by rw [hj] at q; cases q)
theorem lvL_st1 {ad : Nat → Nat} {ls' : Array Slot} {nL a : Nat} {L : Lcs} {v : Value} (h : lv_has ls' nL ((a, tv ad v) :: (asl ad L).filter (fun q => !(q.1 == a) && !(q.1 + 1 == a && q.2.category == 2)))) : lvL ad ls' nL (st1 L a v) := by
  refine ⟨h.2.1, h.1, fun i w hi => ?_⟩
  unfold st1 at hi
  by_cases hia : a = i
  · subst hia
    rw [List.getElem?_set] at hi
    simp at hi
    rw [← hi.2]
    exact h.2.2 (a, tv ad v) List.mem_cons_self
  · rw [List.getElem?_set_ne hia] at hi
    obtain ⟨h1, h2⟩ := kl_at (ad := ad) hi
    refine h.2.2 (i, tv ad w) (List.mem_cons_of_mem _ (List.mem_filter.mpr ⟨asl_mem h1, ?_⟩))
    simp
    exact ⟨fun q => hia q.symm, Decidable.not_and_iff_or_not.mp h2⟩
theorem lvL_st2 {ad : Nat → Nat} {ls' : Array Slot} {nL a : Nat} {L : Lcs} {v : Value} (h : lv_has ls' nL ((a, tv ad v) :: (asl ad L).filter (fun q => !(q.1 == a) && (!(q.1 == a + 1) && !(q.1 + 1 == a && q.2.category == 2))))) : lvL ad ls' nL (st2 L a v) := by
  refine ⟨h.2.1, h.1, fun i w hi => ?_⟩
  unfold st2 at hi
  by_cases hib : a + 1 = i
  · subst hib
    rw [List.getElem?_set] at hi
    simp at hi
  · rw [List.getElem?_set_ne hib] at hi
    by_cases hia : a = i
    · subst hia
      rw [List.getElem?_set] at hi
      simp at hi
      rw [← hi.2]
      exact h.2.2 (a, tv ad v) List.mem_cons_self
    · rw [List.getElem?_set_ne hia] at hi
      obtain ⟨h1, h2⟩ := kl_at (ad := ad) hi
      refine h.2.2 (i, tv ad w) (List.mem_cons_of_mem _ (List.mem_filter.mpr ⟨asl_mem h1, ?_⟩))
      simp
      exact ⟨fun q => hia q.symm, fun q => hib q.symm, Decidable.not_and_iff_or_not.mp h2⟩
theorem tv_cat {ad : Nat → Nat} (v : Value) : (tv ad v).category = v.category := by cases v <;> rfl
theorem entL_at {ad : Nat → Nat} : ∀ (as : List Value) (k i : Nat) (v : Value), (entL as)[i]? = some (some v) → (k + i, tv ad v) ∈ lv_args k (as.map (tv ad))
  | [], k, i, v, h => by simp [entL] at h
  | w :: as, k, i, v, h => by
    have one : ∀ (hh : entL (w :: as) = some w :: entL as) (hc : ¬ (tv ad w).category = 2), (k + i, tv ad v) ∈ lv_args k ((w :: as).map (tv ad)) := by
      intro hh hc
      rw [hh] at h
      show _ ∈ (k, tv ad w) :: lv_args (if (tv ad w).category = 2 then k + 2 else k + 1) (as.map (tv ad))
      rw [if_neg hc]
      cases i with
      | zero => simp at h; subst h; exact List.mem_cons_self
      | succ i =>
        rw [List.getElem?_cons_succ] at h
        have := entL_at (ad := ad) as (k + 1) i v h
        rw [show k + 1 + i = k + (i + 1) by omega] at this
        exact List.mem_cons_of_mem _ this
    have two : ∀ (hh : entL (w :: as) = some w :: none :: entL as) (hc : (tv ad w).category = 2), (k + i, tv ad v) ∈ lv_args k ((w :: as).map (tv ad)) := by
      intro hh hc
      rw [hh] at h
      show _ ∈ (k, tv ad w) :: lv_args (if (tv ad w).category = 2 then k + 2 else k + 1) (as.map (tv ad))
      rw [if_pos hc]
      match i, h with
      | 0, h => simp at h; subst h; exact List.mem_cons_self
      | 1, h => simp at h
      | i + 2, h =>
        rw [List.getElem?_cons_succ, List.getElem?_cons_succ] at h
        have := entL_at (ad := ad) as (k + 2) i v h
        rw [show k + 2 + i = k + (i + 2) by omega] at this
        exact List.mem_cons_of_mem _ this
    cases w with
    | long x => exact two rfl rfl
    | double x => exact two rfl rfl
    | int x => exact one rfl (by simp [tv, Value.category])
    | float x => exact one rfl (by simp [tv, Value.category])
    | null => exact one rfl (by simp [tv, Value.category])
    | ref x => exact one rfl (by simp [tv, Value.category])
    | retAddr x => exact one rfl (by simp [tv, Value.category])
theorem entL_len {ad : Nat → Nat} (as : List Value) : (lg_sl (as.map (tv ad))).length = (entL as).length := by
  induction as with
  | nil => rfl
  | cons v as ih =>
    have h0 : lg_sl ((v :: as).map (tv ad)) = (if (tv ad v).category = 2 then [.val (tv ad v), .second] else [.val (tv ad v)]) ++ lg_sl (as.map (tv ad)) := by simp [lg_sl]
    rw [h0, List.length_append, ih]
    cases v <;> simp [entL, tv, Value.category] <;> omega
theorem lvL_ent {ad : Nat → Nat} {as : List Value} {n : Nat} (h : (entL as).length ≤ n) : lvL ad ((lg_sl (as.map (tv ad)) ++ List.replicate (n - (lg_sl (as.map (tv ad))).length) Slot.unset).toArray) n (ent n as) := by
  have h0 := lv_entry (as.map (tv ad)) (n := n) (by rw [entL_len]; exact h)
  refine ⟨h0.2.1, h0.1, fun i v hi => ?_⟩
  unfold ent at hi
  by_cases hl : i < (entL as).length
  · rw [List.getElem?_append_left hl] at hi
    have := h0.2.2 (0 + i, tv ad v) (entL_at as 0 i v hi)
    rw [Nat.zero_add] at this
    exact this
  · rw [List.getElem?_append_right (by omega)] at hi
    rw [List.getElem?_replicate] at hi
    split at hi <;> simp at hi
