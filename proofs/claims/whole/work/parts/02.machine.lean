/-! A machine of my own over a plain memory: cells by number, whole numbers by (cell, place), longs likewise; a shape
(kind, length, references) beside it. One step is data (zAct); zev runs with fuel; zr is the run without fuel. -/
abbrev zA : Type := Nat → Nat → Int32
abbrev zB : Type := Nat → Nat → Int64
abbrev zSh : Type := List (Nat × Nat × List (Option Nat))
abbrev zR : Type := Option (Option Value × zSh × zA × zB × Nat × Nat × Nat)
abbrev zE : Type := (Instr × Nat) × Nat × (Nat × Nat × Nat) × (Int32 × Int64) × List Nat
abbrev zT : Type := List (Nat × zE)
abbrev zMi : Type := (MethodName × ByteArray × Nat × Option FieldType) × (Nat × Nat × Nat) × zT × List (Nat × List Nat)
abbrev zCf : Type := Nat × List Value × List Value × zSh × zA × zB
abbrev zCall : Type := (Nat × Nat × Nat × List Value) × (Nat × List Value × List Value) × zSh × zA × zB
abbrev zAct : Type := Bool × ((List (Bool × Option zCf) × Option zCf × Option Nat) ⊕ (zCall ⊕ (Option Value × zSh × zA × zB)))
def zlk : zT → Nat → Option zE
  | [], _ => none
  | (p, e) :: t, q => cond (Nat.beq p q) (some e) (zlk t q)
def zld : List (Nat × List Nat) → Nat → Option (List Nat)
  | [], _ => none
  | (p, e) :: t, q => cond (Nat.beq p q) (some e) (zld t q)
def zget : List Value → Nat → Value
  | [], _ => .retAddr 0
  | v :: _, 0 => v
  | _ :: t, n + 1 => zget t n
def zset : List Value → Nat → Value → List Value
  | [], _, _ => []
  | _ :: t, 0, w => w :: t
  | v :: t, n + 1, w => v :: zset t n w
def zkil (ls : List Value) (i : Nat) : List Value := match i with
  | 0 => ls
  | j + 1 => match zget ls j with
    | .long _ => zset ls j (.retAddr 0)
    | .double _ => zset ls j (.retAddr 0)
    | _ => ls
def zst1 (ls : List Value) (i : Nat) (v : Value) : List Value := zset (zkil ls i) i v
def zst2 (ls : List Value) (i : Nat) (v : Value) : List Value := zset (zset (zkil ls i) i v) (i + 1) (.retAddr 0)
/-- what is kept of the locals: those that are listed -/
def zmem (l : List Nat) (i : Nat) : Bool := match l with
  | [] => false
  | x :: t => cond (Nat.beq x i) true (zmem t i)
def zmkF (l : List Nat) : Nat → List Value → List Value
  | _, [] => []
  | i, v :: t => cond (zmem l i) v (.retAddr 0) :: zmkF l (i + 1) t
def zmk (mi : zMi) (pc : Nat) (ls : List Value) : List Value := match zld mi.2.2.2 pc with
  | none => ls
  | some l => zmkF l 0 ls
def zkd (sh : zSh) (q : Nat) : Nat := match sh[q]? with
  | some c => c.1
  | none => 99
def zokc (sh : zSh) (q k : Nat) : Bool := Nat.beq (zkd sh q) k
def zokI (sh : zSh) (q : Nat) : Bool := cond (Nat.beq (zkd sh q) 20) true (cond (Nat.beq q 0) (Nat.beq (zkd sh q) 25) false)
def zokY (sh : zSh) (q : Nat) : Bool := cond (cond (Nat.ble 20 (zkd sh q)) (Nat.ble (zkd sh q) 24) false) true (cond (Nat.beq q 0) (Nat.beq (zkd sh q) 25) false)
def zrf (sh : zSh) (q j : Nat) : Option Nat := match sh[q]? with
  | some c => match c.2.2[j]? with
    | some r => r
    | none => none
  | none => none
def zrs (sh : zSh) (q j : Nat) : Bool := match zrf sh q j with
  | some _ => true
  | none => false
def zrg (sh : zSh) (q j : Nat) : Nat := match zrf sh q j with
  | some t => t
  | none => 0
def zrl (sh : zSh) (q : Nat) : Nat := match sh[q]? with
  | some c => c.2.2.length
  | none => 0
def zlen (sh : zSh) (a : zA) (q : Nat) : Nat := match sh[q]? with
  | some c => cond (Nat.beq c.1 25) (a 0 1000000).toNatClampNeg c.2.1
  | none => 0
def zin (i : Int32) (n : Nat) : Bool := !(decide (i < 0)) && decide (i.toNatClampNeg < n)
def zup (a : zA) (q j : Nat) (x : Int32) : zA := fun q' j' => if q' = q ∧ j' = j then x else a q' j'
def zupB (a : zB) (q j : Nat) (x : Int64) : zB := fun q' j' => if q' = q ∧ j' = j then x else a q' j'
def zzA (a : zA) (q : Nat) : zA := fun q' j' => if q' = q then 0 else a q' j'
def zzB (a : zB) (q : Nat) : zB := fun q' j' => if q' = q then 0 else a q' j'
def zcp (a : zA) (q0 sp q1 dp n : Nat) : zA := fun q j => if q = q1 ∧ dp ≤ j ∧ j < dp + n then a q0 (sp + (j - dp)) else a q j
def zisB (x : Int32) : Bool := decide (x = 0) || decide (x = 1)
def zcat : List Value → Nat
  | [] => 0
  | v :: t => v.category + zcat t
def zpop : Nat → List Value → List Value → Option (List Value × List Value)
  | 0, acc, st => some (acc, st)
  | n + 1, acc, v :: st => zpop n (v :: acc) st
  | _ + 1, _, [] => none
def zlin : List Value → List Value
  | [] => []
  | v :: t => cond (Nat.beq v.category 2) (v :: .retAddr 0 :: zlin t) (v :: zlin t)
def zpad (n : Nat) (l : List Value) : List Value := l ++ List.replicate (n - l.length) (.retAddr 0)
def zsrf (sh : zSh) (q j : Nat) (r : Nat) : zSh := match sh[q]? with
  | some c => sh.set q (c.1, c.2.1, c.2.2.set j (some r))
  | none => sh
-- the forms of a step
def zF : zAct := (false, .inl ([], none, none))
def zG (g : Bool) (c : zCf) : zAct := (g, .inl ([], some c, none))
def zI (g : Bool) (t : Bool) (c : zCf) : zAct := (g, .inl ([(t, some c)], none, none))
def zbr (c : Jvm.ClassFile.Cond) (x y : Int32) (t f : zCf) : zAct := match c with
  | .eq => (true, .inl ([(decide (x = y), some t)], some f, none))
  | .ne => (true, .inl ([(decide (x = y), some f)], some t, none))
  | .lt => (true, .inl ([(decide (x < y), some t)], some f, none))
  | .ge => (true, .inl ([(decide (x < y), some f)], some t, none))
  | .gt => (true, .inl ([(decide (y < x), some t)], some f, none))
  | .le => (true, .inl ([(decide (y < x), some f)], some t, none))
def zswt (x v : Int32) (c : Nat → zCf) : List Nat → List (Bool × Option zCf)
  | [] => []
  | t :: r => (decide (x = v), some (c t)) :: zswt x (v + 1) c r
def zfits (l : List Value) : Bool := Nat.ble (zcat l) 8
/-- one instruction, without calls -/
def zdec1 (mi : zMi) (e : zE) (ls st : List Value) (sh : zSh) (a : zA) (b : zB) : zAct :=
  match e.1.1 with
  | .aload_n n => match zget ls n.val with
    | .ref q => zG true (e.2.1, ls, .ref q :: st, sh, a, b)
    | _ => zF
  | .aload n => match zget ls n with
    | .ref q => zG true (e.2.1, ls, .ref q :: st, sh, a, b)
    | _ => zF
  | .iload_n n => match zget ls n.val with
    | .int q => zG true (e.2.1, ls, .int q :: st, sh, a, b)
    | _ => zF
  | .iload n => match zget ls n with
    | .int q => zG true (e.2.1, ls, .int q :: st, sh, a, b)
    | _ => zF
  | .lload_n n => match zget ls n.val with
    | .long q => zG true (e.2.1, ls, .long q :: st, sh, a, b)
    | _ => zF
  | .lload n => match zget ls n with
    | .long q => zG true (e.2.1, ls, .long q :: st, sh, a, b)
    | _ => zF
  | .istore_n n => match st with
    | .int x :: r => zG (Nat.blt n.val mi.1.2.2.1) (e.2.1, zst1 ls n.val (.int x), r, sh, a, b)
    | _ => zF
  | .istore n => match st with
    | .int x :: r => zG (Nat.blt n mi.1.2.2.1) (e.2.1, zst1 ls n (.int x), r, sh, a, b)
    | _ => zF
  | .astore_n n => match st with
    | .ref x :: r => zG (Nat.blt n.val mi.1.2.2.1) (e.2.1, zst1 ls n.val (.ref x), r, sh, a, b)
    | _ => zF
  | .lstore_n n => match st with
    | .long x :: r => zG (Nat.blt (n.val + 1) mi.1.2.2.1) (e.2.1, zst2 ls n.val (.long x), r, sh, a, b)
    | _ => zF
  | .iinc n _ => match zget ls n with
    | .int x => zG (Nat.blt n mi.1.2.2.1) (e.2.1, zst1 ls n (.int (x + e.2.2.2.1.1)), st, sh, a, b)
    | _ => zF
  | .iconst _ => zG true (e.2.1, ls, .int e.2.2.2.1.1 :: st, sh, a, b)
  | .bipush _ => zG true (e.2.1, ls, .int e.2.2.2.1.1 :: st, sh, a, b)
  | .sipush _ => zG true (e.2.1, ls, .int e.2.2.2.1.1 :: st, sh, a, b)
  | .ldc _ => zG true (e.2.1, ls, .int e.2.2.2.1.1 :: st, sh, a, b)
  | .ldc_w _ => zG true (e.2.1, ls, .int e.2.2.2.1.1 :: st, sh, a, b)
  | .lconst _ => zG true (e.2.1, ls, .long e.2.2.2.1.2 :: st, sh, a, b)
  | .ldc2_w _ => zG true (e.2.1, ls, .long e.2.2.2.1.2 :: st, sh, a, b)
  | .goto _ => zG true (e.2.2.1.1, ls, st, sh, a, b)
  | .ifCond c _ => match st with
    | .int x :: r => zbr c x 0 (e.2.2.1.1, ls, r, sh, a, b) (e.2.1, ls, r, sh, a, b)
    | _ => zF
  | .if_icmp c _ => match st with
    | .int y :: .int x :: r => zbr c x y (e.2.2.1.1, ls, r, sh, a, b) (e.2.1, ls, r, sh, a, b)
    | _ => zF
  | .tableswitch _ _ _ _ => match st with
    | .int x :: r => (true, .inl (zswt x e.2.2.2.1.1 (fun t => (t, ls, r, sh, a, b)) e.2.2.2.2, some (e.2.2.1.1, ls, r, sh, a, b), none))
    | _ => zF
  | .iadd => match st with
    | .int y :: .int x :: r => zG true (e.2.1, ls, .int (x + y) :: r, sh, a, b)
    | _ => zF
  | .isub => match st with
    | .int y :: .int x :: r => zG true (e.2.1, ls, .int (x - y) :: r, sh, a, b)
    | _ => zF
  | .imul => match st with
    | .int y :: .int x :: r => zG true (e.2.1, ls, .int (x * y) :: r, sh, a, b)
    | _ => zF
  | .idiv => match st with
    | .int y :: .int x :: r => (true, .inl ([(decide (y = 0), none)], some (e.2.1, ls, .int (x / y) :: r, sh, a, b), none))
    | _ => zF
  | .irem => match st with
    | .int y :: .int x :: r => (true, .inl ([(decide (y = 0), none)], some (e.2.1, ls, .int (x - x / y * y) :: r, sh, a, b), none))
    | _ => zF
  | .ineg => match st with
    | .int x :: r => zG true (e.2.1, ls, .int (-x) :: r, sh, a, b)
    | _ => zF
  | .iand => match st with
    | .int y :: .int x :: r => zG true (e.2.1, ls, .int (x &&& y) :: r, sh, a, b)
    | _ => zF
  | .ior => match st with
    | .int y :: .int x :: r => zG true (e.2.1, ls, .int (x ||| y) :: r, sh, a, b)
    | _ => zF
  | .ixor => match st with
    | .int y :: .int x :: r => zG true (e.2.1, ls, .int (x ^^^ y) :: r, sh, a, b)
    | _ => zF
  | .ishl => match st with
    | .int y :: .int x :: r => zG true (e.2.1, ls, .int (x <<< (y &&& 31)) :: r, sh, a, b)
    | _ => zF
  | .ishr => match st with
    | .int y :: .int x :: r => zG true (e.2.1, ls, .int (x >>> (y &&& 31)) :: r, sh, a, b)
    | _ => zF
  | .iushr => match st with
    | .int y :: .int x :: r => zG true (e.2.1, ls, .int (x.toUInt32 >>> (y.toUInt32 &&& Int32.toUInt32 31)).toInt32 :: r, sh, a, b)
    | _ => zF
  | .ladd => match st with
    | .long y :: .long x :: r => zG true (e.2.1, ls, .long (x + y) :: r, sh, a, b)
    | _ => zF
  | .lsub => match st with
    | .long y :: .long x :: r => zG true (e.2.1, ls, .long (x - y) :: r, sh, a, b)
    | _ => zF
  | .land => match st with
    | .long y :: .long x :: r => zG true (e.2.1, ls, .long (x &&& y) :: r, sh, a, b)
    | _ => zF
  | .lor => match st with
    | .long y :: .long x :: r => zG true (e.2.1, ls, .long (x ||| y) :: r, sh, a, b)
    | _ => zF
  | .lxor => match st with
    | .long y :: .long x :: r => zG true (e.2.1, ls, .long (x ^^^ y) :: r, sh, a, b)
    | _ => zF
  | .lshl => match st with
    | .int y :: .long x :: r => zG true (e.2.1, ls, .long (x <<< (y.toInt64 &&& 63)) :: r, sh, a, b)
    | _ => zF
  | .lushr => match st with
    | .int y :: .long x :: r => zG true (e.2.1, ls, .long (x.toUInt64 >>> (y.toInt64.toUInt64 &&& Int64.toUInt64 63)).toInt64 :: r, sh, a, b)
    | _ => zF
  | .lcmp => match st with
    | .long y :: .long x :: r => zG true (e.2.1, ls, .int (lg_cmp x y) :: r, sh, a, b)
    | _ => zF
  | .i2l => match st with
    | .int x :: r => zG true (e.2.1, ls, .long x.toInt64 :: r, sh, a, b)
    | _ => zF
  | .l2i => match st with
    | .long x :: r => zG true (e.2.1, ls, .int x.toInt32 :: r, sh, a, b)
    | _ => zF
  | .i2b => match st with
    | .int x :: r => zG true (e.2.1, ls, .int x.toInt8.toInt32 :: r, sh, a, b)
    | _ => zF
  | .i2s => match st with
    | .int x :: r => zG true (e.2.1, ls, .int x.toInt16.toInt32 :: r, sh, a, b)
    | _ => zF
  | .dup => match st with
    | v :: r => zG (Nat.beq v.category 1) (e.2.1, ls, v :: v :: r, sh, a, b)
    | _ => zF
  | .dup2 => match st with
    | v :: w :: r => zG (cond (Nat.beq v.category 1) (Nat.beq w.category 1) false) (e.2.1, ls, v :: w :: v :: w :: r, sh, a, b)
    | _ => zF
  | .pop => match st with
    | v :: r => zG (Nat.beq v.category 1) (e.2.1, ls, r, sh, a, b)
    | _ => zF
  | .getfield _ => match st with
    | .ref q :: r => match e.2.2.1.2.2 with
      | 0 => zG (zokc sh q e.2.2.1.1) (e.2.1, ls, .int (a q e.2.2.1.2.1) :: r, sh, a, b)
      | 1 => zG (zokc sh q e.2.2.1.1) (e.2.1, ls, .long (b q e.2.2.1.2.1) :: r, sh, a, b)
      | 2 => match zrf sh q e.2.2.1.2.1 with
        | some t => zG (zokc sh q e.2.2.1.1) (e.2.1, ls, .ref t :: r, sh, a, b)
        | none => zF
      | _ => zG (zokc sh q e.2.2.1.1) (e.2.1, ls, .int (a q e.2.2.1.2.1) :: r, sh, a, b)
    | _ => zF
  | .putfield _ => match e.2.2.1.2.2 with
    | 0 => match st with
      | .int x :: .ref q :: r => zG (zokc sh q e.2.2.1.1) (e.2.1, ls, r, sh, zup a q e.2.2.1.2.1 x, b)
      | _ => zF
    | 1 => match st with
      | .long x :: .ref q :: r => zG (zokc sh q e.2.2.1.1) (e.2.1, ls, r, sh, a, zupB b q e.2.2.1.2.1 x)
      | _ => zF
    | 2 => match st with
      | .ref x :: .ref q :: r => zG (cond (zokc sh q e.2.2.1.1) (cond (Nat.blt x sh.length) (cond (Nat.blt 0 x) (Nat.blt e.2.2.1.2.1 (zrl sh q)) false) false) false) (e.2.1, ls, r, zsrf sh q e.2.2.1.2.1 x, a, b)
      | _ => zF
    | _ => match st with
      | .int x :: .ref q :: r => zI (zokc sh q e.2.2.1.1) (zisB x) (e.2.1, ls, r, sh, zup a q e.2.2.1.2.1 x, b)
      | _ => zF
  | .iaload => match st with
    | .int i :: .ref q :: r => zI (zokI sh q) (zin i (zlen sh a q)) (e.2.1, ls, .int (a q i.toNatClampNeg) :: r, sh, a, b)
    | _ => zF
  | .baload => match st with
    | .int i :: .ref q :: r => zI (zokc sh q 21) (zin i (zlen sh a q)) (e.2.1, ls, .int (a q i.toNatClampNeg) :: r, sh, a, b)
    | _ => zF
  | .laload => match st with
    | .int i :: .ref q :: r => zI (zokc sh q 22) (zin i (zlen sh a q)) (e.2.1, ls, .long (b q i.toNatClampNeg) :: r, sh, a, b)
    | _ => zF
  | .aaload => match st with
    | .int i :: .ref q :: r => zI (cond (Nat.beq (zkd sh q) 23) true (Nat.beq (zkd sh q) 24)) (zin i (zlen sh a q) && zrs sh q i.toNatClampNeg) (e.2.1, ls, .ref (zrg sh q i.toNatClampNeg) :: r, sh, a, b)
    | _ => zF
  | .iastore => match st with
    | .int x :: .int i :: .ref q :: r => zI (zokc sh q 20) (zin i (zlen sh a q)) (e.2.1, ls, r, sh, zup a q i.toNatClampNeg x, b)
    | _ => zF
  | .bastore => match st with
    | .int x :: .int i :: .ref q :: r => zI (zokc sh q 21) (zin i (zlen sh a q) && zisB x) (e.2.1, ls, r, sh, zup a q i.toNatClampNeg x, b)
    | _ => zF
  | .aastore => match st with
    | .ref x :: .int i :: .ref q :: r => zI (cond (zokc sh q 23) (zokc sh x 3) (cond (zokc sh q 24) (zokc sh x 6) false)) (zin i (zlen sh a q) && decide (i.toNatClampNeg < zrl sh q)) (e.2.1, ls, r, zsrf sh q i.toNatClampNeg x, a, b)
    | _ => zF
  | .arraylength => match st with
    | .ref q :: r => zG (zokY sh q) (e.2.1, ls, .int (Int32.ofNat (zlen sh a q)) :: r, sh, a, b)
    | _ => zF
  | .newarray _ => match st with
    | .int n :: r => (true, .inl ([(zin n 1000000, some (e.2.1, ls, .ref sh.length :: r, sh ++ [(e.2.2.1.1, n.toNatClampNeg, [])], zzA a sh.length, zzB b sh.length))], none, some n.toNatClampNeg))
    | _ => zF
  | .anewarray _ => match st with
    | .int n :: r => (true, .inl ([(zin n 1000000, some (e.2.1, ls, .ref sh.length :: r, sh ++ [(e.2.2.1.1, n.toNatClampNeg, List.replicate n.toNatClampNeg none)], zzA a sh.length, zzB b sh.length))], none, some n.toNatClampNeg))
    | _ => zF
  | .new _ => (true, .inl ([], some (e.2.1, ls, .ref sh.length :: st, sh ++ [(e.2.2.1.1, e.2.2.1.2.1, List.replicate e.2.2.1.2.1 none)], zzA a sh.length, zzB b sh.length), some e.2.2.1.2.1))
  | .ireturn => match st with
    | .int x :: [] => match mi.1.2.2.2 with
      | some .int => (true, .inr (.inr (some (.int x), sh, a, b)))
      | some .boolean => (zisB x, .inr (.inr (some (.int x), sh, a, b)))
      | _ => zF
    | _ => zF
  | .return_ => match st with
    | [] => match mi.1.2.2.2 with
      | none => (true, .inr (.inr (none, sh, a, b)))
      | _ => zF
    | _ => zF
  | _ => zF
/-- a call: its kind is 0 (an int back), 1 (nothing back), 2, 3 (the same, of itself), 4 (a constructor), 5 (Object's), 6 (arraycopy), 7 (the law's row) -/
def zrcv (vt : Bool) (as : List Value) (sh : zSh) (tl : List Nat) : Bool := cond vt (match as with
  | .ref q :: _ => (match tl with
    | c :: _ => zokc sh q c
    | [] => false)
  | _ => false) true
def zdecC (vt : Bool) (d : Nat) (e : zE) (ls st : List Value) (sh : zSh) (a : zA) (b : zB) : zAct :=
  match zpop e.2.2.1.2.1 [] st with
  | none => zF
  | some (as, r) => match e.2.2.1.2.2 with
    | 0 => (cond (zrcv vt as sh e.2.2.2.2) (zfits r) false, .inr (.inl ((0, e.2.2.1.1, 31, as), (e.2.1, ls, r), sh, a, b)))
    | 1 => (cond (zrcv vt as sh e.2.2.2.2) (zfits r) false, .inr (.inl ((1, e.2.2.1.1, 31, as), (e.2.1, ls, r), sh, a, b)))
    | 2 => match d with
      | 0 => zF
      | d' + 1 => (cond (zrcv vt as sh e.2.2.2.2) (zfits r) false, .inr (.inl ((0, e.2.2.1.1, d', as), (e.2.1, ls, r), sh, a, b)))
    | 3 => match d with
      | 0 => zF
      | d' + 1 => (cond (zrcv vt as sh e.2.2.2.2) (zfits r) false, .inr (.inl ((1, e.2.2.1.1, d', as), (e.2.1, ls, r), sh, a, b)))
    | 4 => (cond (match as with
      | .ref _ :: _ => true
      | _ => false) (zfits r) false, .inr (.inl ((4, e.2.2.1.1, 31, as), (e.2.1, ls, r), sh, a, b)))
    | 5 => match as with
      | .ref _ :: [] => zG (zfits r) (e.2.1, ls, r, sh, a, b)
      | _ => zF
    | 6 => match as with
      | .ref q0 :: .int sp :: .ref q1 :: .int dp :: .int n :: [] =>
        zI (cond (zokc sh q0 20) (cond (zokc sh q1 20) (zfits r) false) false)
          (!(decide (sp < 0)) && (!(decide (dp < 0)) && (!(decide (n < 0)) && (decide (sp.toNatClampNeg + n.toNatClampNeg ≤ zlen sh a q0) && decide (dp.toNatClampNeg + n.toNatClampNeg ≤ zlen sh a q1)))))
          (e.2.1, ls, r, sh, zcp a q0 sp.toNatClampNeg q1 dp.toNatClampNeg n.toNatClampNeg, b)
      | _ => zF
    | 8 => match as with
      | .int x :: .int y :: [] => zG (zfits r) (e.2.1, ls, .int (if x < y then y else x) :: r, sh, a, b)
      | _ => zF
    | 9 => match as with
      | .int x :: .int y :: [] => zG (zfits r) (e.2.1, ls, .int (if y < x then y else x) :: r, sh, a, b)
      | _ => zF
    | 7 => (zfits r, .inr (.inl ((7, 0, 0, as), (e.2.1, ls, r), sh, a, b)))
    | _ => zF
def zdec (mi : zMi) (d pc : Nat) (ls st : List Value) (sh : zSh) (a : zA) (b : zB) : zAct :=
  match zlk mi.2.2.1 pc with
  | none => zF
  | some e => match e.1.1 with
    | .invokevirtual _ => zdecC true d e ls st sh a b
    | .invokestatic _ => zdecC false d e ls st sh a b
    | .invokespecial _ => zdecC false d e ls st sh a b
    | _ => zdec1 mi e ls st sh a b
section ZINT
variable {ρ : Type} (FAIL : ρ) (IFB : Bool → ρ → ρ → ρ) (RET : Option Value → zSh → zA → zB → ρ) (CALLI : Nat → Nat → List Value → zSh → zA → zB → (Int32 → zA → zB → ρ) → ρ) (CALLV : Nat → Nat → List Value → zSh → zA → zB → (zA → zB → ρ) → ρ) (CALLA : Nat → List Value → zSh → zA → zB → (zSh → zA → zB → ρ) → ρ) (PRM : List Value → zSh → zA → zB → (Int32 → zA → zB → ρ) → ρ) (CNT : Nat → ρ → ρ)
def zop (k : zCf → ρ) : Option zCf → ρ
  | none => FAIL
  | some c => k c
def zbrs (k : zCf → ρ) : List (Bool × Option zCf) → Option zCf → ρ
  | [], d => zop FAIL k d
  | (g, t) :: r, d => IFB g (zop FAIL k t) (zbrs k r d)
/-- what a step means, by what its ends mean -/
def zint (k : zCf → ρ) (t : zAct) : ρ := cond t.1 (match t.2 with
  | .inl (bs, d, none) => zbrs FAIL IFB k bs d
  | .inl (bs, d, some n) => CNT n (zbrs FAIL IFB k bs d)
  | .inr (.inl ((0, c, d, as), (nx, ls, r), sh, a, b)) => CALLI c d as sh a b (fun x a' b' => k (nx, ls, .int x :: r, sh, a', b'))
  | .inr (.inl ((1, c, d, as), (nx, ls, r), sh, a, b)) => CALLV c d as sh a b (fun a' b' => k (nx, ls, r, sh, a', b'))
  | .inr (.inl ((4, c, _, as), (nx, ls, r), sh, a, b)) => CALLA c as sh a b (fun sh' a' b' => k (nx, ls, r, sh', a', b'))
  | .inr (.inl ((7, _, _, as), (nx, ls, r), sh, a, b)) => PRM as sh a b (fun x a' b' => k (nx, ls, .int x :: r, sh, a', b'))
  | .inr (.inl _) => FAIL
  | .inr (.inr (v, sh, a, b)) => RET v sh a b) FAIL
/-- up to n instructions, up to the next leader -/
def zrun (mi : zMi) (d : Nat) (k : zCf → ρ) : Nat → zCf → ρ
  | 0, c => k c
  | n + 1, (pc, ls, st, sh, a, b) => zint FAIL IFB RET CALLI CALLV CALLA PRM CNT (fun c => match zld mi.2.2.2 c.1 with
    | some l => k (c.1, zmkF l 0 c.2.1, c.2.2)
    | none => zrun mi d k n c) (zdec mi d pc ls st sh a b)
end ZINT
