/-! THE PURE MACHINE: one method's bytecode over a fixed world of 42 cells; the memory is a function; calls are a relation -/
abbrev Mem : Type := Nat → Nat → Int32
abbrev Lcs : Type := List (Option Value)
abbrev Pst : Type := Option Value → Mem → Prop
abbrev Cst : Type := Nat → List Value → Mem → Pst → Prop
/-- an instruction with what it needs resolved: next place, target or index, count, links, constant, switch -/
abbrev PO : Type := Instr × Nat × Nat × Nat × Nat × Nat × Int32 × List (Int32 × Nat)
def up (S : Mem) (k j : Nat) (v : Int32) : Mem := fun a b => if a = k ∧ b = j then v else S a b
abbrev Shp : Type := Nat ⊕ (Nat × List (Option Nat))
def shCo (c : Nat) : Shp := .inr (1, [none, none, none, none, none, some (c + 1), some (c + 2), some (c + 3), some (c + 4), some (c + 5)])
/-- the cells: 0 the class's object, 1, 7, 13 its corridors with five rows each, 19 20 its letters, 21 22 23 its rows, 24 its best; 25 the reference's object, 26 .. 41 its rows -/
def shps : List Shp := [
  .inr (3, [some 1, some 7, some 13, none, some 19, some 21, none, some 22, some 23, some 24]),
  shCo 1, .inl 8, .inl 8, .inl 2, .inl 2, .inl 2,
  shCo 7, .inl 8, .inl 8, .inl 2, .inl 2, .inl 2,
  shCo 13, .inl 8, .inl 8, .inl 2, .inl 2, .inl 2,
  .inr (2, [some 20, none]), .inl 96, .inl 16, .inl 7, .inl 5, .inr (0, [none, none, none, none]),
  .inr (4, [some 26, some 27, some 28, some 29, some 30, some 31, some 32, some 33, none, some 34, some 35, some 36, some 37, none, none, none, none, some 38, none, none, none, none, none, none, some 39, none, none, some 40, none, none, none, none, none, none, some 41, none]), .inl 7, .inl 8, .inl 8, .inl 8, .inl 8, .inl 2, .inl 2, .inl 2, .inl 96, .inl 33, .inl 33, .inl 99, .inl 117, .inl 16, .inl 5, .inl 8]
def fld (k ci j : Nat) : Option (Option Nat) := match shps[k]? with
  | some (.inr (c, ts)) => cond (Nat.beq c ci) (ts[j]?) none
  | _ => none
def alen (k : Nat) : Option Nat := match shps[k]? with
  | some (.inl n) => some n
  | _ => none
def cls (k : Nat) : Option Nat := match shps[k]? with
  | some (.inr (c, _)) => some c
  | _ => none
def kl (L : Lcs) : Nat → Lcs
  | 0 => L
  | j + 1 => match L[j]? with
    | some (some (.long _)) => L.set j none
    | some (some (.double _)) => L.set j none
    | _ => L
def st1 (L : Lcs) (i : Nat) (v : Value) : Lcs := (kl L i).set i (some v)
def st2 (L : Lcs) (i : Nat) (v : Value) : Lcs := ((kl L i).set i (some v)).set (i + 1) none
def tk : Nat → List Value → List Value → Option (List Value × List Value)
  | 0, acc, st => some (acc, st)
  | n + 1, acc, v :: st => tk n (v :: acc) st
  | _ + 1, _, [] => none
def rp : Option Value → List Value → List Value
  | some v, st => v :: st
  | none, st => st
def sle : Nat → List Value → Bool
  | _, [] => true
  | 0, _ :: _ => false
  | n + 1, _ :: r => sle n r
def swx (x : Int32) (nx : Nat → Prop) (d : Nat) : List (Int32 × Nat) → Prop
  | [] => nx d
  | (v, t) :: r => (x = v → nx t) ∧ (¬ x = v → swx x nx d r)
def xs1 (st : List Value) (k : Int32 → List Value → Prop) : Prop := match st with
  | .int x :: r => k x r
  | _ => False
def xs2 (st : List Value) (k : Int32 → Int32 → List Value → Prop) : Prop := match st with
  | .int y :: .int x :: r => k x y r
  | _ => False
def xl1 (st : List Value) (k : Int64 → List Value → Prop) : Prop := match st with
  | .long x :: r => k x r
  | _ => False
def xl2 (st : List Value) (k : Int64 → Int64 → List Value → Prop) : Prop := match st with
  | .long y :: .long x :: r => k x y r
  | _ => False
def xr1 (st : List Value) (k : Nat → List Value → Prop) : Prop := match st with
  | .ref x :: r => k x r
  | _ => False
def xir (st : List Value) (k : Nat → Int32 → List Value → Prop) : Prop := match st with
  | .int x :: .ref q :: r => k q x r
  | _ => False
def xiir (st : List Value) (k : Nat → Int32 → Int32 → List Value → Prop) : Prop := match st with
  | .int x :: .int j :: .ref q :: r => k q j x r
  | _ => False
def xdup (st : List Value) (k : List Value → Prop) : Prop := match st with
  | .int x :: r => k (.int x :: .int x :: r)
  | .ref x :: r => k (.ref x :: .ref x :: r)
  | _ => False
def xldi (v : Option (Option Value)) (k : Int32 → Prop) : Prop := match v with
  | some (some (.int x)) => k x
  | _ => False
def xldl (v : Option (Option Value)) (k : Int64 → Prop) : Prop := match v with
  | some (some (.long x)) => k x
  | _ => False
def xlda (v : Option (Option Value)) (k : Nat → Prop) : Prop := match v with
  | some (some (.ref x)) => k x
  | _ => False
def xfld (f : Option (Option Nat)) (k0 : Prop) (k1 : Nat → Prop) : Prop := match f with
  | some none => k0
  | some (some t) => k1 t
  | none => False
def xlen (f : Option Nat) (sc : Option (Nat × (Nat → Int32))) (k0 : Nat → Prop) (k1 : Nat → (Nat → Int32) → Prop) : Prop := match f with
  | some n => k0 n
  | none => match sc with
    | some (n, xs) => k1 n xs
    | none => False
def xvir (t : Option (List Value × List Value)) (e : Nat) (k : List Value → List Value → Prop) : Prop := match t with
  | some (.ref q :: as, r) => match cls q with
    | some c => cond (Nat.beq c e && sle 4 r) (k (.ref q :: as) r) False
    | none => False
  | _ => False
def xsta (t : Option (List Value × List Value)) (k : List Value → List Value → Prop) : Prop := match t with
  | some (as, r) => cond (sle 4 r) (k as r) False
  | none => False
def xri (st : List Value) (a : Nat) (k : Int32 → Prop) : Prop := match st with
  | [.int x] => match a with
    | 0 => k x
    | _ + 1 => (x = 0 ∨ x = 1) ∧ k x
  | _ => False
def xrl (st : List Value) (k : Int64 → Prop) : Prop := match st with
  | [.long x] => k x
  | _ => False
def xrv (st : List Value) (k : Prop) : Prop := match st with
  | [] => k
  | _ => False
def xbo (e : Nat) (x : Int32) (k : Prop) : Prop := match e with
  | 0 => k
  | _ + 1 => (x = 0 ∨ x = 1) ∧ k
/-- the machine's remainders -/
def irm (x y : Int32) : Int32 := x - x / y * y
def lrm (x y : Int64) : Int64 := x - x / y * y
def exec (C : Cst) (sc : Option (Nat × (Nat → Int32))) (o : PO) (L : Lcs) (st : List Value) (S : Mem) (Q : Pst) (nx : Nat → Lcs → List Value → Mem → Prop) : Prop := match o with
  | (i, n, a, b, _d, e, v, sw) => match i with
    | .iconst _ => nx n L (.int v :: st) S
    | .bipush _ => nx n L (.int v :: st) S
    | .sipush _ => nx n L (.int v :: st) S
    | .ldc _ => nx n L (.int v :: st) S
    | .ldc_w _ => nx n L (.int v :: st) S
    | .lconst _ => nx n L (.long (Int64.ofNat a) :: st) S
    | .ldc2_w _ => nx n L (.long (Int64.ofNat a) :: st) S
    | .iload _ => xldi (L[a]?) fun x => nx n L (.int x :: st) S
    | .iload_n _ => xldi (L[a]?) fun x => nx n L (.int x :: st) S
    | .lload _ => xldl (L[a]?) fun x => nx n L (.long x :: st) S
    | .lload_n _ => xldl (L[a]?) fun x => nx n L (.long x :: st) S
    | .aload_n _ => xlda (L[a]?) fun x => nx n L (.ref x :: st) S
    | .istore _ => xs1 st fun x r => nx n (st1 L a (.int x)) r S
    | .istore_n _ => xs1 st fun x r => nx n (st1 L a (.int x)) r S
    | .lstore _ => xl1 st fun x r => nx n (st2 L a (.long x)) r S
    | .lstore_n _ => xl1 st fun x r => nx n (st2 L a (.long x)) r S
    | .astore_n _ => xr1 st fun x r => nx n (st1 L a (.ref x)) r S
    | .iinc _ _ => xldi (L[a]?) fun x => nx n (st1 L a (.int (x + v))) st S
    | .iadd => xs2 st fun x y r => nx n L (.int (x + y) :: r) S
    | .isub => xs2 st fun x y r => nx n L (.int (x - y) :: r) S
    | .imul => xs2 st fun x y r => nx n L (.int (x * y) :: r) S
    | .iand => xs2 st fun x y r => nx n L (.int (x &&& y) :: r) S
    | .ior => xs2 st fun x y r => nx n L (.int (x ||| y) :: r) S
    | .ixor => xs2 st fun x y r => nx n L (.int (x ^^^ y) :: r) S
    | .ishl => xs2 st fun x y r => nx n L (.int (x <<< (y &&& 31)) :: r) S
    | .ishr => xs2 st fun x y r => nx n L (.int (x >>> (y &&& 31)) :: r) S
    | .iushr => xs2 st fun x y r => nx n L (.int (x.toUInt32 >>> (y.toUInt32 &&& Int32.toUInt32 31)).toInt32 :: r) S
    | .idiv => xs2 st fun x y r => ¬ y = 0 ∧ nx n L (.int (x / y) :: r) S
    | .irem => xs2 st fun x y r => ¬ y = 0 ∧ nx n L (.int (irm x y) :: r) S
    | .ineg => xs1 st fun x r => nx n L (.int (-x) :: r) S
    | .ladd => xl2 st fun x y r => nx n L (.long (x + y) :: r) S
    | .lsub => xl2 st fun x y r => nx n L (.long (x - y) :: r) S
    | .lmul => xl2 st fun x y r => nx n L (.long (x * y) :: r) S
    | .ldiv => xl2 st fun x y r => ¬ y = 0 ∧ nx n L (.long (x / y) :: r) S
    | .lrem => xl2 st fun x y r => ¬ y = 0 ∧ nx n L (.long (lrm x y) :: r) S
    | .lcmp => xl2 st fun x y r => nx n L (.int (lg_cmp x y) :: r) S
    | .i2l => xs1 st fun x r => nx n L (.long x.toInt64 :: r) S
    | .dup => xdup st fun r => nx n L r S
    | .dup2 => xir st fun q x r => nx n L (.int x :: .ref q :: .int x :: .ref q :: r) S
    | .pop => xs1 st fun _ r => nx n L r S
    | .goto _ => nx a L st S
    | .ifCond .eq _ => xs1 st fun x r => (x = 0 → nx a L r S) ∧ (¬ x = 0 → nx n L r S)
    | .ifCond .ne _ => xs1 st fun x r => (x = 0 → nx n L r S) ∧ (¬ x = 0 → nx a L r S)
    | .ifCond .lt _ => xs1 st fun x r => (x < 0 → nx a L r S) ∧ (¬ x < 0 → nx n L r S)
    | .ifCond .ge _ => xs1 st fun x r => (0 ≤ x → nx a L r S) ∧ (¬ 0 ≤ x → nx n L r S)
    | .ifCond .gt _ => xs1 st fun x r => (0 < x → nx a L r S) ∧ (¬ 0 < x → nx n L r S)
    | .ifCond .le _ => xs1 st fun x r => (x ≤ 0 → nx a L r S) ∧ (¬ x ≤ 0 → nx n L r S)
    | .if_icmp .eq _ => xs2 st fun x y r => (x = y → nx a L r S) ∧ (¬ x = y → nx n L r S)
    | .if_icmp .ne _ => xs2 st fun x y r => (x = y → nx n L r S) ∧ (¬ x = y → nx a L r S)
    | .if_icmp .lt _ => xs2 st fun x y r => (x < y → nx a L r S) ∧ (¬ x < y → nx n L r S)
    | .if_icmp .ge _ => xs2 st fun x y r => (y ≤ x → nx a L r S) ∧ (¬ y ≤ x → nx n L r S)
    | .if_icmp .gt _ => xs2 st fun x y r => (y < x → nx a L r S) ∧ (¬ y < x → nx n L r S)
    | .if_icmp .le _ => xs2 st fun x y r => (x ≤ y → nx a L r S) ∧ (¬ x ≤ y → nx n L r S)
    | .tableswitch _ _ _ _ => xs1 st fun x r => swx x (fun t => nx t L r S) a sw
    | .lookupswitch _ _ => xs1 st fun x r => swx x (fun t => nx t L r S) a sw
    | .getfield _ => xr1 st fun q r => xfld (fld q a b) (nx n L (.int (S q b) :: r) S) fun t => nx n L (.ref t :: r) S
    | .putfield _ => xir st fun q x r => xfld (fld q a b) (xbo e x (nx n L r (up S q b x))) fun _ => False
    | .iaload => xir st fun q j r => xlen (alen q) sc (fun m => vp_in j m ∧ nx n L (.int (S q j.toNatClampNeg) :: r) S) fun m xs => q = 99 ∧ vp_in j m ∧ nx n L (.int (xs j.toNatClampNeg) :: r) S
    | .iastore => xiir st fun q j x r => xlen (alen q) none (fun m => vp_in j m ∧ nx n L r (up S q j.toNatClampNeg x)) fun _ _ => False
    | .arraylength => xr1 st fun q r => xlen (alen q) sc (fun m => nx n L (.int (Int32.ofNat m) :: r) S) fun m _ => q = 99 ∧ nx n L (.int (Int32.ofNat m) :: r) S
    | .invokevirtual _ => xvir (tk (b + 1) [] st) e fun as r => C a as S fun v S' => nx n L (rp v r) S'
    | .invokestatic _ => match e with
      | 0 => xsta (tk b [] st) fun as r => C a as S fun v S' => nx n L (rp v r) S'
      | 1 => xs1 st fun x r => cond (sle 4 r) (nx n L (.int (if 0 ≤ x then x else 0 - x) :: r) S) False
      | _ + 2 => xs2 st fun x y r => cond (sle 4 r) (nx n L (.int (if x < y then y else x) :: r) S) False
    | .ireturn => xri st a fun x => Q (some (.int x)) S
    | .lreturn => xrl st fun x => Q (some (.long x)) S
    | .return_ => xrv st (Q none S)
    | _ => False
def stp {α : Type} (pc : Nat) (A B : α) : List Nat → α
  | [] => B
  | p :: r => cond (Nat.beq pc p) A (stp pc A B r)
def entL : List Value → Lcs
  | [] => []
  | .long x :: r => some (.long x) :: none :: entL r
  | .double x :: r => some (.double x) :: none :: entL r
  | v :: r => some v :: entL r
def ent (n : Nat) (as : List Value) : Lcs := entL as ++ List.replicate (n - (entL as).length) none
def cdg (n : Nat) (f : Nat → Option PO) (pc : Nat) : Option PO := cond (Nat.blt pc n) (f pc) none
