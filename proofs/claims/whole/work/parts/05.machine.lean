/-! OWN MACHINE, level 1. Cells have numbers in the order in which they are made; 1000 is the script. xk: a cell's kind: (0, class), (1, n) ints, (2, n) booleans, (3, n) longs. The final references are laid once, in a fixed order: xrf: of a cell's field (when, to which cell). A state: cells made, references laid, throws so far, ints, longs. -/
abbrev XS : Type := Nat × Nat × Nat × (Nat → Nat → Int32) × (Nat → Nat → Int64)
abbrev XO : Type := Option Value ⊕ Nat
abbrev XI : Type := Instr × Nat × (Nat × Nat × Nat × Nat) × Int32 × Int64
abbrev XE : Type := Nat × XI
def xkind (k : Nat) : Nat × Nat := xk.getD k (9, 0)
def xfkind (ci j : Nat) : Nat := (xfk.getD ci []).getD j 9
def xref (k j : Nat) : Nat × Nat := (xrf.getD k []).getD j (1000, 0)
def xf : List XE → Nat → Option XI
  | [], _ => none
  | q :: t, pc => bif Nat.beq q.1 pc then some q.2 else xf t pc
def xuI (M : Nat → Nat → Int32) (k j : Nat) (v : Int32) : Nat → Nat → Int32 := va_up M k (upd (M k) j v)
def xuL (M : Nat → Nat → Int64) (k j : Nat) (v : Int64) : Nat → Nat → Int64 := va_up M k (vp_updL (M k) j v)
def xin (i : Int32) (n : Nat) : Bool := decide (¬ (i < 0 ∨ n ≤ i.toNatClampNeg))
def x01 (x : Int32) : Bool := decide (x = 0) || decide (x = 1)
/-- the place ahead of k holds no long -/
def xnl (ls : List (Option Value)) (k : Nat) : Bool := match k with
  | 0 => true
  | j + 1 => match ls[j]? with
    | some (some (.long _)) => false
    | some (some (.double _)) => false
    | _ => true
def xset (ls : List (Option Value)) (k : Nat) (v : Value) : Option (List (Option Value)) := bif Nat.blt k ls.length && xnl ls k then some (ls.set k (some v)) else none
def xsto (ls : List (Option Value)) (k : Nat) (v : Value) (r : List Value) (pc : Nat) (σ : XS) : Option (Nat × List (Option Value) × List Value × XS) := match xset ls k v with
  | some ls' => some (pc, ls', r, σ)
  | none => none
def xldi (ls : List (Option Value)) (k : Nat) (st : List Value) (pc : Nat) (σ : XS) : Option (Nat × List (Option Value) × List Value × XS) := match ls[k]? with
  | some (some (.int x)) => some (pc, ls, .int x :: st, σ)
  | _ => none
def xlda (ls : List (Option Value)) (k : Nat) (st : List Value) (pc : Nat) (σ : XS) : Option (Nat × List (Option Value) × List Value × XS) := match ls[k]? with
  | some (some (.ref x)) => some (pc, ls, .ref x :: st, σ)
  | _ => none
def xldl (ls : List (Option Value)) (k : Nat) (st : List Value) (pc : Nat) (σ : XS) : Option (Nat × List (Option Value) × List Value × XS) := match ls[k]? with
  | some (some (.long x)) => some (pc, ls, .long x :: st, σ)
  | _ => none
def xget (ci j : Nat) (σ : XS) (k : Nat) : Option Value := bif Nat.blt k σ.1 && (xkind k == (0, ci)) && Nat.blt j (xfk.getD ci []).length then
    (match xfkind ci j with
      | 0 => some (.int (σ.2.2.2.1 k j))
      | 1 => some (.int (σ.2.2.2.1 k j))
      | 2 => some (.long (σ.2.2.2.2 k j))
      | _ => bif Nat.blt (xref k j).1 σ.2.1 then some (.ref (xref k j).2) else none) else none
def xput (ci j : Nat) (σ : XS) (k : Nat) (v : Value) : Option XS := bif Nat.blt k σ.1 && (xkind k == (0, ci)) && Nat.blt j (xfk.getD ci []).length then
    (match xfkind ci j, v with
      | 0, .int x => some (σ.1, σ.2.1, σ.2.2.1, xuI σ.2.2.2.1 k j x, σ.2.2.2.2)
      | 1, .int x => bif x01 x then some (σ.1, σ.2.1, σ.2.2.1, xuI σ.2.2.2.1 k j x, σ.2.2.2.2) else none
      | 2, .long x => some (σ.1, σ.2.1, σ.2.2.1, σ.2.2.2.1, xuL σ.2.2.2.2 k j x)
      | 3, .ref r => bif (xref k j == (σ.2.1, r)) && Nat.blt r σ.1 then some (σ.1, σ.2.1 + 1, σ.2.2.1, σ.2.2.2.1, σ.2.2.2.2) else none
      | _, _ => none) else none
/-- a new cell of a kind, all zero -/
def xmake (kd : Nat × Nat) (σ : XS) : Option XS := bif Nat.blt σ.1 xk.length && (xkind σ.1 == kd) && Nat.beq σ.2.2.1 0 && (xrf.getD σ.1 []).all (fun q => Nat.ble σ.2.1 q.1) then
    some (σ.1 + 1, σ.2.1, 0, va_up σ.2.2.2.1 σ.1 (fun _ => 0), va_up σ.2.2.2.2 σ.1 (fun _ => 0)) else none
def xtab (pc : Nat) (dflt lo hi : Int) (offs : Array Int) (x : Int32) : Nat := bif decide (x.toInt < lo) || decide (hi < x.toInt) then (Int.ofNat pc + dflt).toNat else (match offs[(x.toInt - lo).toNat]? with
  | some off => (Int.ofNat pc + off).toNat
  | none => 0)
def xcond : Jvm.ClassFile.Cond → Int32 → Int32 → Bool
  | .eq, x, y => decide (x = y)
  | .ne, x, y => decide (¬ x = y)
  | .lt, x, y => decide (x < y)
  | .ge, x, y => decide (y ≤ x)
  | .gt, x, y => decide (y < x)
  | .le, x, y => decide (x ≤ y)
/-- what an array of this kind code has as its type -/
def xaty (k : Nat) : ArrayType := match k with
  | 1 => .int
  | 2 => .boolean
  | _ => .long
section
variable (L : Nat) (xs : Nat → Int32)
/-- one plain step -/
def xs1 (q : XI) (pc : Nat) (ls : List (Option Value)) (st : List Value) (σ : XS) : Option (Nat × List (Option Value) × List Value × XS) := match q.1 with
  | .iload_n k => xldi ls k.val st (pc + 1) σ
  | .iload k => xldi ls k st (pc + 2) σ
  | .aload_n k => xlda ls k.val st (pc + 1) σ
  | .aload k => xlda ls k st (pc + 2) σ
  | .lload_n k => xldl ls k.val st (pc + 1) σ
  | .istore_n k => (match st with | .int x :: r => xsto ls k.val (.int x) r (pc + 1) σ | _ => none)
  | .istore k => (match st with | .int x :: r => xsto ls k (.int x) r (pc + 2) σ | _ => none)
  | .astore_n k => (match st with | .ref x :: r => xsto ls k.val (.ref x) r (pc + 1) σ | _ => none)
  | .astore k => (match st with | .ref x :: r => xsto ls k (.ref x) r (pc + 2) σ | _ => none)
  | .iinc k _ => (match ls[k]? with | some (some (.int x)) => xsto ls k (.int (x + q.2.2.2.1)) st (pc + 3) σ | _ => none)
  | .iconst _ => some (pc + 1, ls, .int q.2.2.2.1 :: st, σ)
  | .bipush _ => some (pc + 2, ls, .int q.2.2.2.1 :: st, σ)
  | .sipush _ => some (pc + 3, ls, .int q.2.2.2.1 :: st, σ)
  | .ldc _ => some (pc + 2, ls, .int q.2.2.2.1 :: st, σ)
  | .ldc_w _ => some (pc + 3, ls, .int q.2.2.2.1 :: st, σ)
  | .lconst _ => some (pc + 1, ls, .long q.2.2.2.2 :: st, σ)
  | .ldc2_w _ => some (pc + 3, ls, .long q.2.2.2.2 :: st, σ)
  | .iadd => (match st with | .int y :: .int x :: r => some (pc + 1, ls, .int (x + y) :: r, σ) | _ => none)
  | .isub => (match st with | .int y :: .int x :: r => some (pc + 1, ls, .int (x - y) :: r, σ) | _ => none)
  | .imul => (match st with | .int y :: .int x :: r => some (pc + 1, ls, .int (x * y) :: r, σ) | _ => none)
  | .iand => (match st with | .int y :: .int x :: r => some (pc + 1, ls, .int (x &&& y) :: r, σ) | _ => none)
  | .ior => (match st with | .int y :: .int x :: r => some (pc + 1, ls, .int (x ||| y) :: r, σ) | _ => none)
  | .ixor => (match st with | .int y :: .int x :: r => some (pc + 1, ls, .int (x ^^^ y) :: r, σ) | _ => none)
  | .ishl => (match st with | .int y :: .int x :: r => some (pc + 1, ls, .int (x <<< (y &&& 31)) :: r, σ) | _ => none)
  | .ishr => (match st with | .int y :: .int x :: r => some (pc + 1, ls, .int (x >>> (y &&& 31)) :: r, σ) | _ => none)
  | .iushr => (match st with | .int y :: .int x :: r => some (pc + 1, ls, .int (x.toUInt32 >>> (y.toUInt32 &&& Int32.toUInt32 31)).toInt32 :: r, σ) | _ => none)
  | .irem => (match st with | .int y :: .int x :: r => (bif decide (y = 0) then none else some (pc + 1, ls, .int (x - x / y * y) :: r, σ)) | _ => none)
  | .ladd => (match st with | .long y :: .long x :: r => some (pc + 1, ls, .long (x + y) :: r, σ) | _ => none)
  | .lmul => (match st with | .long y :: .long x :: r => some (pc + 1, ls, .long (x * y) :: r, σ) | _ => none)
  | .lrem => (match st with | .long y :: .long x :: r => (bif decide (y = 0) then none else some (pc + 1, ls, .long (x - x / y * y) :: r, σ)) | _ => none)
  | .lushr => (match st with | .int y :: .long x :: r => some (pc + 1, ls, .long (x.toUInt64 >>> (y.toInt64.toUInt64 &&& Int64.toUInt64 63)).toInt64 :: r, σ) | _ => none)
  | .l2i => (match st with | .long x :: r => some (pc + 1, ls, .int x.toInt32 :: r, σ) | _ => none)
  | .i2l => (match st with | .int x :: r => some (pc + 1, ls, .long x.toInt64 :: r, σ) | _ => none)
  | .lcmp => (match st with | .long y :: .long x :: r => some (pc + 1, ls, .int (lg_cmp x y) :: r, σ) | _ => none)
  | .dup => (match st with | .int x :: r => some (pc + 1, ls, .int x :: .int x :: r, σ) | .ref x :: r => some (pc + 1, ls, .ref x :: .ref x :: r, σ) | _ => none)
  | .dup2 => (match st with | .int y :: .ref x :: r => some (pc + 1, ls, .int y :: .ref x :: .int y :: .ref x :: r, σ) | _ => none)
  | .goto _ => some (q.2.2.1.1, ls, st, σ)
  | .tableswitch d lo hi offs => (match st with | .int x :: r => some (xtab pc d lo hi offs x, ls, r, σ) | _ => none)
  | .getfield _ => (match st with | .ref k :: r => (match xget q.2.2.1.1 q.2.2.1.2.1 σ k with | some v => some (pc + 3, ls, v :: r, σ) | none => none) | _ => none)
  | .putfield _ => (match st with | v :: .ref k :: r => (match xput q.2.2.1.1 q.2.2.1.2.1 σ k v with | some σ' => some (pc + 3, ls, r, σ') | none => none) | _ => none)
  | .iaload => (match st with
    | .int i :: .ref k :: r => (bif Nat.beq k 1000 then (bif xin i L then some (pc + 1, ls, .int (xs i.toNatClampNeg) :: r, σ) else none) else
        (bif Nat.blt k σ.1 && Nat.beq (xkind k).1 1 && xin i (xkind k).2 then some (pc + 1, ls, .int (σ.2.2.2.1 k i.toNatClampNeg) :: r, σ) else none))
    | _ => none)
  | .baload => (match st with
    | .int i :: .ref k :: r => (bif Nat.blt k σ.1 && Nat.beq (xkind k).1 2 && xin i (xkind k).2 then some (pc + 1, ls, .int (σ.2.2.2.1 k i.toNatClampNeg) :: r, σ) else none)
    | _ => none)
  | .laload => (match st with
    | .int i :: .ref k :: r => (bif Nat.blt k σ.1 && Nat.beq (xkind k).1 3 && xin i (xkind k).2 then some (pc + 1, ls, .long (σ.2.2.2.2 k i.toNatClampNeg) :: r, σ) else none)
    | _ => none)
  | .iastore => (match st with
    | .int x :: .int i :: .ref k :: r => (bif Nat.blt k σ.1 && Nat.beq (xkind k).1 1 && xin i (xkind k).2 then some (pc + 1, ls, r, (σ.1, σ.2.1, σ.2.2.1, xuI σ.2.2.2.1 k i.toNatClampNeg x, σ.2.2.2.2)) else none)
    | _ => none)
  | .bastore => (match st with
    | .int x :: .int i :: .ref k :: r => (bif Nat.blt k σ.1 && Nat.beq (xkind k).1 2 && xin i (xkind k).2 && x01 x then some (pc + 1, ls, r, (σ.1, σ.2.1, σ.2.2.1, xuI σ.2.2.2.1 k i.toNatClampNeg x, σ.2.2.2.2)) else none)
    | _ => none)
  | .lastore => (match st with
    | .long x :: .int i :: .ref k :: r => (bif Nat.blt k σ.1 && Nat.beq (xkind k).1 3 && xin i (xkind k).2 then some (pc + 1, ls, r, (σ.1, σ.2.1, σ.2.2.1, σ.2.2.2.1, xuL σ.2.2.2.2 k i.toNatClampNeg x)) else none)
    | _ => none)
  | .arraylength => (match st with | .ref k :: r => (bif Nat.beq k 1000 then some (pc + 1, ls, .int (Int32.ofNat L) :: r, σ) else none) | _ => none)
  | .newarray _ => (match st with
    | .int n :: r => (bif decide (¬ n < 0) && Nat.ble n.toNatClampNeg 100000 then (match xmake (q.2.2.1.1, n.toNatClampNeg) σ with | some σ' => some (pc + 2, ls, .ref σ.1 :: r, σ') | none => none) else none)
    | _ => none)
  | .new _ => (match xmake (0, q.2.2.1.1) σ with | some σ' => some (pc + 3, ls, .ref σ.1 :: st, σ') | none => none)
  | _ => none
/-- the arguments as the first locals: a long takes two places -/
def xla : List Value → List (Option Value)
  | [] => []
  | .long x :: t => some (.long x) :: none :: xla t
  | .double x :: t => some (.double x) :: none :: xla t
  | v :: t => some v :: xla t
def xwords (st : List Value) : Nat := (st.map fun v => v.category).sum
/-- what a row of the method's table does with a throw of kind k at pc: rows (from, to, kind, the answer) -/
def xhand : List (Nat × Nat × Nat × Int32) → Nat → Nat → Option Int32
  | [], _, _ => none
  | h :: t, pc, k => bif Nat.ble h.1 pc && Nat.blt pc h.2.1 && Nat.beq h.2.2.1 k then some h.2.2.2 else xhand t pc k
def xcopy (st : List Value) (σ : XS) : Option (List Value × XS) := match st with
  | .int n :: .int dp :: .ref d :: .int sp :: .ref s :: r =>
    (bif decide (¬ sp < 0) && decide (¬ dp < 0) && decide (¬ n < 0) && Nat.blt d σ.1 && Nat.blt s σ.1 && Nat.beq (xkind d).1 1 && Nat.beq (xkind s).1 1 && Nat.ble (sp.toNatClampNeg + n.toNatClampNeg) (xkind s).2 && Nat.ble (dp.toNatClampNeg + n.toNatClampNeg) (xkind d).2 && Nat.ble (xwords r) 8 then
      some (r, (σ.1, σ.2.1, σ.2.2.1, va_up σ.2.2.2.1 d (va_cpy (σ.2.2.2.1 s) (σ.2.2.2.1 d) sp.toNatClampNeg dp.toNatClampNeg n.toNatClampNeg), σ.2.2.2.2)) else none)
  | _ => none
/-- what the library's own does: arraycopy (5), Math.max (6), Math.min (7) -/
def xnat (d : Nat) (st : List Value) (σ : XS) : Option (List Value × XS) := bif Nat.beq d 5 then xcopy st σ else (match st with
  | .int y :: .int x :: r => (bif Nat.ble (xwords r) 8 then (bif Nat.beq d 6 then some (.int (if x < y then y else x) :: r, σ) else some (.int (if y < x then y else x) :: r, σ)) else none)
  | _ => none)
/-- is it a call of a method that the machine itself runs? -/
def xisc (i : Instr) (d : Nat) : Bool := match i with
  | .invokevirtual _ => true
  | .invokestatic _ => !(Nat.beq d 5 || Nat.beq d 6 || Nat.beq d 7)
  | .invokespecial _ => !(Nat.beq d 4)
  | _ => false
/-- the arguments off the stack: (callee, how many, kind of call: 0 virtual, 1 static, 2 special) -/
def xcargs (a n d : Nat) (st : List Value) (σ : XS) : Option (List Value × List Value) :=
  bif Nat.ble n st.length && Nat.ble (xwords (st.drop n)) 8 && Nat.ble (xla (st.take n).reverse).length (xmL a) then
    (bif Nat.beq d 1 then some ((st.take n).reverse, st.drop n) else (match (st.take n).reverse with
      | .ref k :: t => (bif Nat.blt k σ.1 && (xkind k == (0, xmC a)) then some (.ref k :: t, st.drop n) else none)
      | _ => none)) else none
def xini (as : List Value) (n : Nat) : List (Option Value) := xla as ++ List.replicate (n - (xla as).length) none
/-- THE MACHINE. Operands (a, b, d, its word's place in lw_tbl) of an instruction: a branch: (target, 0, 0); a field: (class, place, 0); a call: (callee, how many arguments with the receiver, 0 virtual 1 static 2 special 4 Object.<init> 5 arraycopy); new: (class, 0, 0), or (kind, 0, 1): a throw -/
def xr : Nat → Nat → Nat → List (Option Value) → List Value → XS → Option (XO × XS)
  | 0, _, _, _, _, _ => none
  | f + 1, y, pc, ls, st, σ => match xf (xcode y) pc with
    | none => none
    | some q => bif xisc q.1 q.2.2.1.2.2.1 then
        (match xcargs q.2.2.1.1 q.2.2.1.2.1 q.2.2.1.2.2.1 st σ with
          | none => none
          | some (as, r) => (match xr f q.2.2.1.1 0 (xini as (xmL q.2.2.1.1)) [] σ with
            | none => none
            | some (.inl none, σ') => xr f y (pc + 3) ls r σ'
            | some (.inl (some v), σ') => xr f y (pc + 3) ls (v :: r) σ'
            | some (.inr k, σ') => (bif Nat.beq q.2.2.1.2.2.1 2 then none else (match xmH y with
              | [] => some (.inr k, σ')
              | h :: t => (match xhand (h :: t) pc k with
                | some c => some (.inl (some (.int c)), σ')
                | none => none)))))
      else (match q.1 with
      | .if_icmp c _ => (match st with | .int y1 :: .int x1 :: r => (bif xcond c x1 y1 then xr f y q.2.2.1.1 ls r σ else xr f y (pc + 3) ls r σ) | _ => none)
      | .ifCond c _ => (match st with | .int x1 :: r => (bif xcond c x1 0 then xr f y q.2.2.1.1 ls r σ else xr f y (pc + 3) ls r σ) | _ => none)
      | .ireturn => (match st with | [.int x] => (bif (xmR y == some .int) || ((xmR y == some .boolean) && x01 x) then some (.inl (some (.int x)), σ) else none) | _ => none)
      | .return_ => (match st with | [] => (bif xmR y == none then some (.inl none, σ) else none) | _ => none)
      | .invokestatic _ => (match xnat q.2.2.1.2.2.1 st σ with | some (r, σ') => xr f y (pc + 3) ls r σ' | none => none)
      | .invokespecial _ => (match st with | .ref _ :: r => (bif Nat.ble (xwords r) 8 then xr f y (pc + 3) ls r σ else none) | _ => none)
      | _ => (bif Nat.beq q.2.2.1.2.2.1 1 then (bif Nat.beq σ.1 xk.length && Nat.blt σ.2.2.1 1024 && Nat.ble (xwords st) 8 then some (.inr q.2.2.1.1, (σ.1, σ.2.1, σ.2.2.1 + 1, σ.2.2.2.1, σ.2.2.2.2)) else none) else
          (match xs1 L xs q pc ls st σ with | some (pc', ls', st', σ') => xr f y pc' ls' st' σ' | none => none)))
end
