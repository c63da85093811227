/-! An interpreter of the instructions that the classes here use, over a heap of cells by number. Own text. -/
/-- a cell: ints of an array (0 int, 1 byte), or values: of an object (its class's number), or of an array of references (50 and more) -/
abbrev zE : Type := (Nat × List Int32) ⊕ (Nat × List Value)
abbrev zH : Type := List zE
/-- an instruction with what its index stands for -/
abbrev zC : Type := Instr × Nat × Nat × Int
/-- what is given beside the heap: statics by number; fields of given objects; given arrays; what a new object's fields hold, by its class -/
abbrev zS : Type := (Nat → Option Value) × (Nat → Nat → Nat → Option Value) × (Nat → Option (Nat × List Int32)) × (Nat → Option (List Value))
/-- methods by number: name, bytes, slots of the locals, what it returns -/
abbrev zM : Type := Nat → Option (MethodName × ByteArray × Nat × Option FieldType)
def zlen : Instr → Nat
  | .aload _ => 2 | .astore _ => 2 | .iload _ => 2 | .istore _ => 2 | .bipush _ => 2 | .ldc _ => 2 | .newarray _ => 2
  | .sipush _ => 3 | .ldc_w _ => 3 | .ldc2_w _ => 3 | .iinc _ _ => 3 | .ifCond _ _ => 3 | .if_icmp _ _ => 3 | .if_acmp _ _ => 3 | .goto _ => 3
  | .getfield _ => 3 | .putfield _ => 3 | .getstatic _ => 3 | .new _ => 3 | .anewarray _ => 3 | .checkcast _ => 3
  | .invokevirtual _ => 3 | .invokestatic _ => 3 | .invokespecial _ => 3 | .multianewarray _ _ => 4
  | .tableswitch _ _ _ _ => 0 | .lookupswitch _ _ => 0
  | _ => 1
def zb2 (f : Int32 → Int32 → Int32) : List Value → Option (List Value)
  | .int y :: .int x :: st => some (.int (f x y) :: st)
  | _ => none
def zdiv (f : Int32 → Int32 → Int32) : List Value → Option (List Value)
  | .int y :: .int x :: st => if y = 0 then none else some (.int (f x y) :: st)
  | _ => none
def zu (f : Int32 → Int32) : List Value → Option (List Value)
  | .int x :: st => some (.int (f x) :: st)
  | _ => none
def zl2 (f : Int64 → Int64 → Int64) : List Value → Option (List Value)
  | .long y :: .long x :: st => some (.long (f x y) :: st)
  | _ => none
def zls (f : Int64 → Int32 → Int64) : List Value → Option (List Value)
  | .int y :: .long x :: st => some (.long (f x y) :: st)
  | _ => none
def zil (f : Int32 → Int64) : List Value → Option (List Value)
  | .int x :: st => some (.long (f x) :: st)
  | _ => none
def zli (f : Int64 → Int32) : List Value → Option (List Value)
  | .long x :: st => some (.int (f x) :: st)
  | _ => none
def zdup : List Value → Option (List Value)
  | v :: st => if v.category = 1 then some (v :: v :: st) else none
  | _ => none
def zdup2 : List Value → Option (List Value)
  | v :: w :: st => if v.category = 1 ∧ w.category = 1 then some (v :: w :: v :: w :: st) else none
  | _ => none
def zpop : List Value → Option (List Value)
  | v :: st => if v.category = 1 then some st else none
  | _ => none
/-- instructions on the operand stack alone -/
def zstk : Instr → List Value → Option (List Value)
  | .iconst i, st => some (.int (Int32.ofInt i) :: st)
  | .bipush i, st => some (.int (Int8.ofInt i).toInt32 :: st)
  | .sipush i, st => some (.int (Int16.ofInt i).toInt32 :: st)
  | .iadd, st => zb2 (fun x y => x + y) st
  | .isub, st => zb2 (fun x y => x - y) st
  | .imul, st => zb2 (fun x y => x * y) st
  | .iand, st => zb2 (fun x y => x &&& y) st
  | .ior, st => zb2 (fun x y => x ||| y) st
  | .ixor, st => zb2 (fun x y => x ^^^ y) st
  | .ishl, st => zb2 (fun x y => x <<< (y &&& 31)) st
  | .ishr, st => zb2 (fun x y => x >>> (y &&& 31)) st
  | .iushr, st => zb2 (fun x y => (x.toUInt32 >>> (y.toUInt32 &&& Int32.toUInt32 31)).toInt32) st
  | .idiv, st => zdiv (fun x y => x / y) st
  | .irem, st => zdiv (fun x y => x - x / y * y) st
  | .ineg, st => zu (fun x => -x) st
  | .i2b, st => zu (fun x => x.toInt8.toInt32) st
  | .i2s, st => zu (fun x => x.toInt16.toInt32) st
  | .i2c, st => zu (fun x => (x.toUInt32 % 65536).toInt32) st
  | .i2l, st => zil (fun x => x.toInt64) st
  | .l2i, st => zli (fun x => x.toInt32) st
  | .land, st => zl2 (fun x y => x &&& y) st
  | .lor, st => zl2 (fun x y => x ||| y) st
  | .lshl, st => zls (fun x y => x <<< (y.toInt64 &&& 63)) st
  | .lshr, st => zls (fun x y => x >>> (y.toInt64 &&& 63)) st
  | .dup, st => zdup st
  | .dup2, st => zdup2 st
  | .pop, st => zpop st
  | _, _ => none
def zcnd : ClassFile.Cond → Int32 → Int32 → Bool
  | .eq, x, y => decide (x = y)
  | .ne, x, y => decide (¬ x = y)
  | .lt, x, y => decide (x < y)
  | .ge, x, y => decide (y ≤ x)
  | .gt, x, y => decide (y < x)
  | .le, x, y => decide (x ≤ y)
/-- whether a number is that of a given word, of a given string -/
def zisE (E : zS) (k : Nat) : Bool := decide (10000 ≤ k) && (E.2.1 k 40 1).isSome
def zisS (E : zS) (k : Nat) : Bool := decide (10000 ≤ k) && (E.2.1 k 41 0).isSome
/-- a branch: whether it is taken, what is left -/
def zbr (E : zS) : Instr → List Value → Option (Bool × Int × List Value)
  | .ifCond cd off, .int x :: st => some (zcnd cd x 0, off, st)
  | .if_icmp cd off, .int y :: .int x :: st => some (zcnd cd x y, off, st)
  | .goto off, st => some (true, off, st)
  | .if_acmp cd off, .ref y :: .ref x :: st => if zisE E x = true ∧ zisE E y = true then some ((match cd with | .eq => decide (x = y) | .ne => decide (¬ x = y)), off, st) else none
  | _, _ => none
/-- where a switch goes to -/
def zsw : Instr → List Value → Option (Int × List Value)
  | .tableswitch dflt lo hi offs, .int x :: st => if x.toInt < lo ∨ hi < x.toInt then some (dflt, st) else (offs[(x.toInt - lo).toNat]?).map (fun o => (o, st))
  | .lookupswitch dflt ps, .int x :: st => if (ps.toList.zip (ps.toList.drop 1)).all (fun (a, next) => a.1 < next.1) = true then some (Op.lookupswitch.offset ps.toList dflt x.toInt, st) else none
  | _, _ => none
/-- the pc behind a jump -/
def zjmp (pc : Nat) (off : Int) : Option Nat := if 0 ≤ (pc : Int) + off then some ((pc : Int) + off).toNat else none
def zld (i : Nat) (L st : List Value) (t : Nat) : Option (List Value × List Value) :=
  match L[i]? with
  | some (.int x) => if t = 0 then some (L, .int x :: st) else none
  | some (.ref x) => if t = 1 then some (L, .ref x :: st) else none
  | some (.long x) => if t = 2 then some (L, .long x :: st) else none
  | _ => none
def zlong : List Value → Nat → Bool
  | _, 0 => false
  | L, i + 1 => match L[i]? with
    | some v => decide (v.category = 2)
    | none => false
def zsto (i : Nat) (L st : List Value) (t : Nat) : Option (List Value × List Value) :=
  match st with
  | .int x :: st => if t = 0 ∧ i < L.length ∧ zlong L i = false then some (L.set i (.int x), st) else none
  | .ref x :: st => if t = 1 ∧ i < L.length ∧ zlong L i = false then some (L.set i (.ref x), st) else none
  | _ => none
def zinc (i : Nat) (n : Int) (L : List Value) : Option (List Value) :=
  match L[i]? with
  | some (.int x) => if zlong L i = false then some (L.set i (.int (x + Int32.ofInt n))) else none
  | _ => none
/-- instructions on locals -/
def zloc : Instr → List Value → List Value → Option (List Value × List Value)
  | .iload i, L, st => zld i L st 0
  | .iload_n i, L, st => zld i L st 0
  | .aload i, L, st => zld i L st 1
  | .aload_n i, L, st => zld i L st 1
  | .lload_n i, L, st => zld i L st 2
  | .istore i, L, st => zsto i L st 0
  | .istore_n i, L, st => zsto i L st 0
  | .astore i, L, st => zsto i L st 1
  | .astore_n i, L, st => zsto i L st 1
  | .iinc i n, L, st => (zinc i n L).map (fun L' => (L', st))
  | _, _, _ => none
/-- a place in an array -/
def zix (i : Int32) (n : Nat) : Option Nat := if i < 0 ∨ n ≤ i.toNatClampNeg then none else some i.toNatClampNeg
/-- an array of ints, in the heap or given -/
def zarr (E : zS) (h : zH) (k : Nat) : Option (Nat × List Int32) :=
  if 10000 ≤ k then E.2.2.1 k else match h[k]? with
    | some (.inl x) => some x
    | _ => none
/-- no reference into lo to hi -/
def zfree (lo hi : Nat) : Value → Bool
  | .ref k => decide (k < lo ∨ hi ≤ k)
  | _ => true
def zfreeE (lo hi : Nat) : zE → Bool
  | .inr (_, vs) => vs.all (zfree lo hi)
  | _ => true
def zfits (c : Int) : Value → Bool
  | .int x => decide (c % 10 = 0) || (decide (c % 10 = 1) && decide (x = 0 ∨ x = 1))
  | .ref _ => decide (c % 10 = 2)
  | _ => false
def zslots (h : zH) : Nat := (h.map (fun e => match e with | .inl (_, xs) => xs.length | .inr (_, vs) => vs.length)).sum
/-- getfield, putfield -/
def zgetf (E : zS) (a b : Nat) (st : List Value) (h : zH) : Option (List Value × zH) :=
  match st with
  | .ref k :: st => if a < 40 then (match h[k]? with
      | some (.inr (ci, fs)) => if ci = a then (fs[b]?).map (fun v => (v :: st, h)) else none
      | _ => none) else (E.2.1 k a b).map (fun v => (v :: st, h))
  | _ => none
def zputf (a b : Nat) (c : Int) (st : List Value) (h : zH) : Option (List Value × zH) :=
  match st with
  | v :: .ref k :: st => (match h[k]? with
      | some (.inr (ci, fs)) => if ci = a ∧ a < 40 ∧ b < fs.length ∧ zfits c v = true then some (st, h.set k (.inr (ci, fs.set b v))) else none
      | _ => none)
  | _ => none
def zald (E : zS) (t : Nat) (st : List Value) (h : zH) : Option (List Value × zH) :=
  match st with
  | .int i :: .ref k :: st => (match zarr E h k with
      | some (t', xs) => if t' = t then (zix i xs.length).map (fun j => (.int (xs.getD j 0) :: st, h)) else none
      | _ => none)
  | _ => none
def zast (t : Nat) (st : List Value) (h : zH) : Option (List Value × zH) :=
  match st with
  | .int x :: .int i :: .ref k :: st => (match h[k]? with
      | some (.inl (t', xs)) => if t' = t then (zix i xs.length).map (fun j => (st, h.set k (.inl (t, xs.set j (if t = 1 then x.toInt8.toInt32 else x))))) else none
      | _ => none)
  | _ => none
def zaald (st : List Value) (h : zH) : Option (List Value × zH) :=
  match st with
  | .int i :: .ref k :: st => (match h[k]? with
      | some (.inr (t, vs)) => if 50 ≤ t ∧ t ≤ 53 then (zix i vs.length).bind (fun j => match vs.getD j .null with
          | .ref x => some (.ref x :: st, h)
          | _ => none) else none
      | _ => none)
  | _ => none
def zisv (h : zH) (x : Nat) : Bool := match h[x]? with
  | some (.inr (8, _)) => true
  | _ => false
/-- a reference into an array: versions are objects of class 8, words and strings are given -/
def zaast (E : zS) (st : List Value) (h : zH) : Option (List Value × zH) :=
  match st with
  | .ref x :: .int i :: .ref k :: st => (match h[k]? with
      | some (.inr (t, vs)) => if (t = 52 ∧ zisv h x = true) ∨ (t = 51 ∧ zisE E x = true) ∨ (t = 53 ∧ zisS E x = true) then (zix i vs.length).map (fun j => (st, h.set k (.inr (t, vs.set j (.ref x))))) else none
      | _ => none)
  | _ => none
def zalen (E : zS) (st : List Value) (h : zH) : Option (List Value × zH) :=
  match st with
  | .ref k :: st => (match zarr E h k with
      | some (t, xs) => if t ≤ 1 then some (.int (Int32.ofNat xs.length) :: st, h) else none
      | none => (match h[k]? with
        | some (.inr (t, vs)) => if 50 ≤ t ∧ t ≤ 53 then some (.int (Int32.ofNat vs.length) :: st, h) else none
        | _ => none))
  | _ => none
/-- room for n more cells: the heap stays below the given references' numbers, nothing refers to what isn't there yet -/
def zroom (n : Nat) (L st : List Value) (h : zH) : Bool :=
  decide (h.length + n ≤ 9000) && L.all (zfree h.length (h.length + n)) && st.all (zfree h.length (h.length + n)) && h.all (zfreeE h.length (h.length + n))
def znew (E : zS) (a : Nat) (L st : List Value) (h : zH) : Option (List Value × zH) :=
  match E.2.2.2 a with
  | some fs => if a < 40 ∧ zroom 1 L st h = true then some (.ref h.length :: st, h ++ [.inr (a, fs)]) else none
  | none => none
def znewa (t : Nat) (L st : List Value) (h : zH) : Option (List Value × zH) :=
  match st with
  | .int n :: st => if ¬ n < 0 ∧ n.toNatClampNeg ≤ 65536 ∧ zroom 1 L st h = true then some (.ref h.length :: st, h ++ [.inl (t, List.replicate n.toNatClampNeg 0)]) else none
  | _ => none
def zanew (a : Nat) (L st : List Value) (h : zH) : Option (List Value × zH) :=
  match st with
  | .int n :: st => if ¬ n < 0 ∧ n.toNatClampNeg ≤ 65536 ∧ zroom 1 L st h = true then some (.ref h.length :: st, h ++ [.inr (a, List.replicate n.toNatClampNeg .null)]) else none
  | _ => none
def zmulti (L st : List Value) (h : zH) : Option (List Value × zH) :=
  match st with
  | .int k :: .int n :: st => if ¬ n < 0 ∧ ¬ k < 0 ∧ n.toNatClampNeg ≤ 100 ∧ k.toNatClampNeg ≤ 65536 ∧ zroom (1 + n.toNatClampNeg) L st h = true then
      some (.ref h.length :: st, h ++ ([.inr (50, (List.range n.toNatClampNeg).map (fun i => .ref (h.length + 1 + i)))] ++ List.replicate n.toNatClampNeg (.inl (0, List.replicate k.toNatClampNeg 0)))) else none
  | _ => none
def zcs (st : List Value) : Nat := (st.map fun v => v.category).sum
/-- the copy of the enum's values -/
def zclone (E : zS) (L st : List Value) (h : zH) : Option (List Value × zH) :=
  match st with
  | .ref 10300 :: st => (match E.2.2.2 100 with
      | some vs => if zcs st ≤ 8 ∧ zroom 1 L st h = true then some (.ref h.length :: st, h ++ [.inr (51, vs)]) else none
      | none => none)
  | _ => none
/-- n ints of xs from sp on, over those of ys from dp on -/
def zcpy (xs ys : List Int32) (sp dp n : Nat) : List Int32 := ys.take dp ++ ((xs.drop sp).take n ++ ys.drop (dp + n))
def zcopy (st : List Value) (h : zH) : Option (List Value × zH) :=
  match st with
  | .int n :: .int dp :: .ref k1 :: .int sp :: .ref k0 :: st => (match h[k0]?, h[k1]? with
      | some (.inl (0, xs)), some (.inl (0, ys)) => if zcs st ≤ 8 ∧ ¬ n < 0 ∧ ¬ dp < 0 ∧ ¬ sp < 0 ∧ sp.toNatClampNeg + n.toNatClampNeg ≤ xs.length ∧ dp.toNatClampNeg + n.toNatClampNeg ≤ ys.length then
          some (st, h.set k1 (.inl (0, zcpy xs ys sp.toNatClampNeg dp.toNatClampNeg n.toNatClampNeg))) else none
      | _, _ => none)
  | _ => none
def zinit0 (st : List Value) (h : zH) : Option (List Value × zH) :=
  match st with
  | .ref _ :: st => if zcs st ≤ 8 then some (st, h) else none
  | _ => none
def zcast (a : Nat) (st : List Value) (h : zH) : Option (List Value × zH) :=
  match st with
  | .ref k :: st => (match h[k]? with
      | some (.inr (t, _)) => if t = a ∧ a = 51 then some (.ref k :: st, h) else none
      | _ => none)
  | _ => none
/-- constants out of the pool: 0 an int, 1 a given reference -/
def zldc (a : Nat) (c : Int) (st : List Value) : Option (List Value) :=
  if a = 0 then some (.int (Int32.ofInt c) :: st) else if a = 1 then some (.ref c.toNat :: st) else none
/-- instructions on the heap -/
def zhp (E : zS) : Instr → Nat → Nat → Int → List Value → List Value → zH → Option (List Value × zH)
  | .getfield _, a, b, _, _, st, h => zgetf E a b st h
  | .putfield _, a, b, c, _, st, h => zputf a b c st h
  | .getstatic _, a, _, _, _, st, h => (E.1 a).map (fun v => (v :: st, h))
  | .iaload, _, _, _, _, st, h => zald E 0 st h
  | .baload, _, _, _, _, st, h => zald E 1 st h
  | .aaload, _, _, _, _, st, h => zaald st h
  | .iastore, _, _, _, _, st, h => zast 0 st h
  | .bastore, _, _, _, _, st, h => zast 1 st h
  | .aastore, _, _, _, _, st, h => zaast E st h
  | .arraylength, _, _, _, _, st, h => zalen E st h
  | .new _, a, _, _, L, st, h => znew E a L st h
  | .newarray .int, _, _, _, L, st, h => znewa 0 L st h
  | .newarray .byte, _, _, _, L, st, h => znewa 1 L st h
  | .anewarray _, a, _, _, L, st, h => zanew a L st h
  | .multianewarray _ 2, _, _, _, L, st, h => zmulti L st h
  | .checkcast _, a, _, _, _, st, h => zcast a st h
  | .ldc _, a, _, c, _, st, h => (zldc a c st).map (fun st => (st, h))
  | .ldc_w _, a, _, c, _, st, h => (zldc a c st).map (fun st => (st, h))
  | .ldc2_w _, _, _, c, _, st, h => some (.long (Int64.ofInt c) :: st, h)
  | .invokespecial _, 9998, _, _, _, st, h => zinit0 st h
  | .invokestatic _, 9999, _, _, _, st, h => zcopy st h
  | .invokevirtual _, 9997, _, _, L, st, h => zclone E L st h
  | _, _, _, _, _, _, _ => none
/-- what an instruction is: 0 stack, 1 locals, 2 branch, 3 switch, 4 heap, 5 return, 6 call -/
def zkd : Instr → Nat → Nat
  | .iload _, _ => 1 | .iload_n _, _ => 1 | .aload _, _ => 1 | .aload_n _, _ => 1 | .lload_n _, _ => 1
  | .istore _, _ => 1 | .istore_n _, _ => 1 | .astore _, _ => 1 | .astore_n _, _ => 1 | .iinc _ _, _ => 1
  | .ifCond _ _, _ => 2 | .if_icmp _ _, _ => 2 | .if_acmp _ _, _ => 2 | .goto _, _ => 2
  | .tableswitch _ _ _ _, _ => 3 | .lookupswitch _ _, _ => 3
  | .getfield _, _ => 4 | .putfield _, _ => 4 | .getstatic _, _ => 4 | .iaload, _ => 4 | .baload, _ => 4 | .aaload, _ => 4
  | .iastore, _ => 4 | .bastore, _ => 4 | .aastore, _ => 4 | .arraylength, _ => 4 | .new _, _ => 4 | .newarray _, _ => 4
  | .anewarray _, _ => 4 | .multianewarray _ _, _ => 4 | .checkcast _, _ => 4 | .ldc _, _ => 4 | .ldc_w _, _ => 4 | .ldc2_w _, _ => 4
  | .ireturn, _ => 5 | .areturn, _ => 5 | .return_, _ => 5
  | .invokespecial _, a => if 9000 ≤ a then 4 else 6
  | .invokestatic _, a => if 9000 ≤ a then 4 else 6
  | .invokevirtual _, a => if 9000 ≤ a then 4 else 6
  | _, _ => 0
/-- a return, by what the method returns -/
def zrt (ret : Option FieldType) (ins : Instr) (st : List Value) (h : zH) : Option (Option Value × zH) :=
  match ins, ret, st with
  | .return_, none, [] => some (none, h)
  | .ireturn, some ty, [.int v] => if narrow ty (.int v) = .int v then some (some (.int v), h) else none
  | .areturn, some ty, [.ref k] => if ty.isReference = true then some (some (.ref k), h) else none
  | _, _, _ => none
/-- arguments as locals -/
def zargs : List Value → List Value
  | [] => []
  | v :: r => if v.category = 2 then v :: .retAddr 0 :: zargs r else v :: zargs r
def zent (n : Nat) (as : List Value) : List Value := zargs as ++ List.replicate (n - (zargs as).length) (.retAddr 0)
/-- the arguments of a call, and what is left of the stack; c: the class of the object (of a virtual call) -/
def zas (E : zS) (ins : Instr) (b : Nat) (c : Int) (st : List Value) (h : zH) : Option (List Value × List Value) :=
  if b ≤ st.length then
    match ins, st.drop b with
    | .invokestatic _, rest => some ((st.take b).reverse, rest)
    | .invokespecial _, .ref k :: rest => some (.ref k :: (st.take b).reverse, rest)
    | .invokevirtual _, .ref k :: rest => if c = 41 then (if zisS E k = true then some (.ref k :: (st.take b).reverse, rest) else none) else
        (match h[k]? with
        | some (.inr (ci, _)) => if (ci : Int) = c ∧ ci < 40 then some (.ref k :: (st.take b).reverse, rest) else none
        | _ => none)
    | _, _ => none
  else none
abbrev zP : Type := Nat → Nat → Option zC
/-- n instructions at most, d calls deep at most: method mi from pc on, with locals L and stack st on the heap h -/
def zexec (P : zP) (M : zM) (E : zS) : Nat → Nat → Nat → Nat → List Value → List Value → zH → Option (Option Value × zH)
  | 0, _, _, _, _, _, _ => none
  | n + 1, d, mi, pc, L, st, h =>
    match P mi pc with
    | none => none
    | some (ins, a, b, c) =>
      match zkd ins a with
      | 0 => match zstk ins st with
        | some st' => zexec P M E n d mi (pc + zlen ins) L st' h
        | none => none
      | 1 => match zloc ins L st with
        | some (L', st') => zexec P M E n d mi (pc + zlen ins) L' st' h
        | none => none
      | 2 => match zbr E ins st with
        | some (bt, off, st') => (match zjmp pc off with
          | some pc' => zexec P M E n d mi (if bt = true then pc' else pc + 3) L st' h
          | none => none)
        | none => none
      | 3 => match zsw ins st with
        | some (off, st') => (match zjmp pc off with
          | some pc' => zexec P M E n d mi pc' L st' h
          | none => none)
        | none => none
      | 4 => match zhp E ins a b c L st h with
        | some (st', h') => zexec P M E n d mi (pc + zlen ins) L st' h'
        | none => none
      | 5 => match M mi with
        | some (_, _, _, ret) => zrt ret ins st h
        | none => none
      | _ => match d, zas E ins b c st h, M a with
        | d' + 1, some (as, rest), some (_, _, maxL, _) =>
          if (zargs as).length ≤ maxL ∧ zcs rest ≤ 8 then
            match zexec P M E n d' a 0 (zent maxL as) [] h with
            | some (r, h') => if h'.length = h.length ∨ ((L ++ rest).all (zfree h.length h'.length)) = true then zexec P M E n d mi (pc + 3) L (r.toList ++ rest) h' else none
            | none => none
          else none
        | _, _, _ => none
