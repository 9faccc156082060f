/-! the interpreter: resolved instructions over typed values and a memory of functions -/
abbrev zxO (x : zMI) : Nat := x.1
abbrev zxY (x : zMI) : MethodName := x.2.1
abbrev zxB (x : zMI) : ByteArray := x.2.2.1
abbrev zxL (x : zMI) : Nat := x.2.2.2.1
abbrev zxT (x : zMI) : Option FieldType := x.2.2.2.2.1
abbrev zxH (x : zMI) : List (Nat × Nat × Nat × Nat) := x.2.2.2.2.2.1
abbrev zxR (x : zMI) : Nat := x.2.2.2.2.2.2.1
abbrev zxN (x : zMI) : Nat := x.2.2.2.2.2.2.2.1
abbrev zxI (x : zMI) : Bool := x.2.2.2.2.2.2.2.2
def zmr (i : Nat) : zMI := match zmtab[i]? with
  | some x => x
  | none => zr_0
abbrev zV : Type := Int ⊕ Int64 ⊕ Nat
abbrev zLs : Type := List (Option zV)
/-- (next, may make, cells, slots), ints, longs, references -/
abbrev zM : Type := (Nat × Bool × Nat × Nat) × (Nat → Nat → Int) × (Nat → Nat → Int64) × (Nat → Nat → Nat)
abbrev zO : Type := Option zV ⊕ Nat
abbrev zR : Type := (Nat × zLs × List zV × zM) ⊕ (Option zV) ⊕ (Nat × List zV × Nat × List zV) ⊕ Nat
abbrev zOp : Type := Instr × Int × Nat × Nat × Nat
def zup {α : Type} (f : Nat → α) (k : Nat) (v : α) : Nat → α := fun j => if j = k then v else f j
def zsI (M : zM) (a i : Nat) (x : Int) : zM := (M.1, zup M.2.1 a (zup (M.2.1 a) i x), M.2.2)
def zsL (M : zM) (a i : Nat) (x : Int64) : zM := (M.1, M.2.1, zup M.2.2.1 a (zup (M.2.2.1 a) i x), M.2.2.2)
def zsR (M : zM) (a i : Nat) (x : Nat) : zM := (M.1, M.2.1, M.2.2.1, zup M.2.2.2 a (zup (M.2.2.2 a) i x))
def zborn (M : zM) (n : Nat) : zM := ((M.1.1 + 1, M.1.2.1, M.1.2.2.1 + 1, M.1.2.2.2 + n), zup M.2.1 (M.1.1 + 2) (fun _ => 0), zup M.2.2.1 (M.1.1 + 2) (fun _ => 0), zup M.2.2.2 (M.1.1 + 2) (fun _ => 0))
def zthrown (M : zM) : zM := ((M.1.1, false, M.1.2.2.1 + 1, M.1.2.2.2 + 6), M.2)
def zkind : FieldType → Nat
  | .int => 0
  | .boolean => 1
  | .long => 2
  | _ => 3
def zcat : zV → Nat
  | .inr (.inl _) => 2
  | _ => 1
/-- a store into the locals -/
def zst (ls : zLs) (k : Nat) (v : zV) : zLs := match k with
  | 0 => ls.set 0 (some v)
  | j + 1 => match ls[j]? with
    | some (some (.inr (.inl _))) => (ls.set j none).set (j + 1) (some v)
    | _ => ls.set (j + 1) (some v)
def zarg1 : zV → zLs
  | .inl x => [some (.inl x)]
  | .inr (.inl x) => [some (.inr (.inl x)), none]
  | .inr (.inr x) => [some (.inr (.inr x))]
def zargs (as : List zV) : zLs := as.flatMap zarg1
def zent (x : zMI) (as : List zV) : zLs := zargs as ++ List.replicate (zxL x - (zargs as).length) none
/-- the target of a branch -/
def ztg (pc : Nat) (off : Int) : Nat := ((pc : Int) + off).toNat
/-- 'new E; dup; ldc text; invokespecial; athrow' -/
def zthr (pc : Nat) (bs : ByteArray) (e : Nat) : Bool := match decode bs (pc + 3), decode bs (pc + 4) with
  | .ok (.dup, 1), .ok (.ldc is, 2) => (match decode bs (pc + 6), decode bs (pc + 9) with
    | .ok (.invokespecial ic, 3), .ok (.athrow, 1) => zexcT.contains (ic, e) && zstrK.contains is
    | _, _ => false)
  | .ok (.dup, 1), .ok (.ldc_w is, 3) => (match decode bs (pc + 7), decode bs (pc + 10) with
    | .ok (.invokespecial ic, 3), .ok (.athrow, 1) => zexcT.contains (ic, e) && zstrK.contains is
    | _, _ => false)
  | _, _ => false
def zres (x : zMI) (pc : Nat) (i : Instr) (n : Nat) : Option zOp := match i with
  | .iload_n k => some (.iload 0, 0, k.val, 0, pc + n)
  | .iload k => some (.iload 0, 0, k, 0, pc + n)
  | .aload_n k => some (.aload 0, 0, k.val, 0, pc + n)
  | .aload k => some (.aload 0, 0, k, 0, pc + n)
  | .lload_n k => some (.lload 0, 0, k.val, 0, pc + n)
  | .lload k => some (.lload 0, 0, k, 0, pc + n)
  | .istore_n k => some (.istore 0, 0, k.val, 0, pc + n)
  | .istore k => some (.istore 0, 0, k, 0, pc + n)
  | .astore_n k => some (.astore 0, 0, k.val, 0, pc + n)
  | .astore k => some (.astore 0, 0, k, 0, pc + n)
  | .lstore_n k => some (.lstore 0, 0, k.val, 0, pc + n)
  | .lstore k => some (.lstore 0, 0, k, 0, pc + n)
  | .iinc k c => if -32768 ≤ c ∧ c ≤ 32767 then some (.iinc 0 0, c, k, 0, pc + n) else none
  | .iconst v => if -1 ≤ v ∧ v ≤ 5 then some (.iconst 0, v, 0, 0, pc + n) else none
  | .bipush v => if -128 ≤ v ∧ v ≤ 127 then some (.iconst 0, v, 0, 0, pc + n) else none
  | .sipush v => if -32768 ≤ v ∧ v ≤ 32767 then some (.iconst 0, v, 0, 0, pc + n) else none
  | .ldc k => (zlk zcstT x.1 k).map fun q => (.iconst 0, q, 0, 0, pc + n)
  | .ldc_w k => (zlk zcstT x.1 k).map fun q => (.iconst 0, q, 0, 0, pc + n)
  | .lconst k => some (.ldc2_w 0, k.val, 0, 0, pc + n)
  | .ldc2_w k => (zlk zcstlT x.1 k).map fun q => (.ldc2_w 0, q.toInt, 0, 0, pc + n)
  | .iadd => some (.iadd, 0, 0, 0, pc + n)
  | .isub => some (.isub, 0, 0, 0, pc + n)
  | .imul => some (.imul, 0, 0, 0, pc + n)
  | .idiv => some (.idiv, 0, 0, 0, pc + n)
  | .irem => some (.irem, 0, 0, 0, pc + n)
  | .ineg => some (.ineg, 0, 0, 0, pc + n)
  | .iand => some (.iand, 0, 0, 0, pc + n)
  | .ior => some (.ior, 0, 0, 0, pc + n)
  | .ixor => some (.ixor, 0, 0, 0, pc + n)
  | .ishl => some (.ishl, 0, 0, 0, pc + n)
  | .ishr => some (.ishr, 0, 0, 0, pc + n)
  | .land => some (.land, 0, 0, 0, pc + n)
  | .lor => some (.lor, 0, 0, 0, pc + n)
  | .lxor => some (.lxor, 0, 0, 0, pc + n)
  | .lshl => some (.lshl, 0, 0, 0, pc + n)
  | .lshr => some (.lshr, 0, 0, 0, pc + n)
  | .i2l => some (.i2l, 0, 0, 0, pc + n)
  | .lcmp => some (.lcmp, 0, 0, 0, pc + n)
  | .dup => some (.dup, 0, 0, 0, pc + n)
  | .dup2 => some (.dup2, 0, 0, 0, pc + n)
  | .pop => some (.pop, 0, 0, 0, pc + n)
  | .goto off => if 0 ≤ (pc : Int) + off then some (.goto 0, 0, ztg pc off, 0, 0) else none
  | .ifCond c off => if 0 ≤ (pc : Int) + off then some (.ifCond c 0, 0, ztg pc off, 0, pc + n) else none
  | .if_icmp c off => if 0 ≤ (pc : Int) + off then some (.if_icmp c 0, 0, ztg pc off, 0, pc + n) else none
  | .tableswitch d lo hi offs => if offs.all (fun o => decide (0 ≤ (pc : Int) + o)) = true ∧ 0 ≤ (pc : Int) + d then some (.tableswitch ((pc : Int) + d) lo hi (offs.map fun o => (pc : Int) + o), 0, 0, 0, 0) else none
  | .iaload => some (.iaload, 0, 0, 0, pc + n)
  | .iastore => some (.iastore, 0, 0, 0, pc + n)
  | .baload => some (.baload, 0, 0, 0, pc + n)
  | .bastore => some (.bastore, 0, 0, 0, pc + n)
  | .laload => some (.laload, 0, 0, 0, pc + n)
  | .lastore => some (.lastore, 0, 0, 0, pc + n)
  | .aaload => some (.aaload, 0, 0, 0, pc + n)
  | .aastore => some (.aastore, 0, 0, 0, pc + n)
  | .arraylength => some (.arraylength, 0, 0, 0, pc + n)
  | .getfield k => (zlk zfldT x.1 k).map fun q => (.getfield (zkind (zty q.1 q.2)), 0, q.2, q.1, pc + n)
  | .putfield k => match zlk zfldT x.1 k with
    | some q => if ((zcl q.1).2.1 q.2).2.2.2 = true ∧ ¬ (zxI x = true ∧ x.1 = q.1) then none else some (.putfield (zkind (zty q.1 q.2)), 0, q.2, q.1, pc + n)
    | none => none
  | .new k => match zlk zclsT x.1 k with
    | some q => if q < 12 then some (.new 0, 0, q, (zcl q).2.2, pc + n) else if x.1 = 10 ∧ zxH x = [] ∧ 4 ≤ zxR x ∧ zthr pc (zxB x) (q - 20) = true then some (.athrow, 0, q - 20, 0, 0) else none
    | none => none
  | .newarray .int => some (.newarray .int, 0, 20, 4, pc + n)
  | .newarray .boolean => some (.newarray .boolean, 0, 21, 1, pc + n)
  | .newarray .long => some (.newarray .long, 0, 22, 8, pc + n)
  | .anewarray k => match zlk zclsT x.1 k with
    | some 7 => some (.anewarray 0, 0, 23, 0, pc + n)
    | some 6 => some (.anewarray 0, 0, 24, 0, pc + n)
    | some 1 => some (.anewarray 0, 0, 25, 0, pc + n)
    | _ => none
  | .invokevirtual k => match zlk zmthT x.1 k with
    | some (m, 0) => if zxR (zmr m) < zxR x ∧ (zmr m).1 < 12 then some (.invokevirtual 0, 0, m, zxN (zmr m), pc + n) else none
    | _ => none
  | .invokestatic k => match zlk zmthT x.1 k with
    | some (m, 1) => if zxR (zmr m) < zxR x then some (.invokestatic 0, 0, m, zxN (zmr m), pc + n) else none
    | some (m, 4) => if zxR (zmr m) < zxR x then some (.invokestatic 0, 0, m, zxN (zmr m), pc + n) else none
    | some (m, 5) => if zxR (zmr m) < zxR x then some (.invokestatic 0, 0, m, zxN (zmr m), pc + n) else none
    | _ => none
  | .invokespecial k => match zlk zmthT x.1 k with
    | some (m, 2) => if zxR (zmr m) < zxR x ∧ (zmr m).1 < 12 then some (.invokevirtual 0, 0, m, zxN (zmr m), pc + n) else none
    | some (m, 3) => if zxR (zmr m) < zxR x ∧ (zmr m).1 < 12 then some (.invokevirtual 0, 0, m, zxN (zmr m), pc + n) else none
    | some (_, 6) => some (.pop2, 0, 0, 0, pc + n)
    | _ => none
  | .ireturn => if zxT x = some .int then some (.ireturn, 0, 0, 0, 0) else if zxT x = some .boolean then some (.ireturn, 1, 0, 0, 0) else none
  | .lreturn => if zxT x = some .long then some (.lreturn, 0, 0, 0, 0) else none
  | .return_ => if zxT x = none then some (.return_, 0, 0, 0, 0) else none
  | .areturn => match zxT x with
    | some (.object _) => some (.areturn, 0, 0, 0, 0)
    | some (.array _) => some (.areturn, 0, 0, 0, 0)
    | _ => none
  | _ => none
/-- an instruction's length -/
def zln (i : Instr) (n : Nat) : Bool := match i with
  | .tableswitch .. => true
  | .iload _ | .aload _ | .lload _ | .istore _ | .astore _ | .lstore _ | .bipush _ | .ldc _ | .newarray _ => n == 2
  | .iinc .. | .sipush _ | .ldc_w _ | .ldc2_w _ | .goto _ | .ifCond .. | .if_icmp .. | .getfield _ | .putfield _ | .new _ | .anewarray _ | .invokevirtual _ | .invokestatic _ | .invokespecial _ => n == 3
  | _ => n == 1
def zop (mi pc : Nat) : Option zOp := match zmtab[mi]? with
  | some x => (match decode (zxB x) pc with
    | .ok (i, n) => if zln i n = true then zres x pc i n else none
    | .error _ => none)
  | none => none
/-- the first handler that takes it: where it goes on behind its astore, the local that holds it -/
def zctch (x : zMI) (pc e : Nat) : List (Nat × Nat × Nat × Nat) → Option (Nat × Nat)
  | [] => none
  | h :: t => if h.1 ≤ pc ∧ pc < h.2.1 then (match zlk zclsT x.1 h.2.2.2 with
      | some q => if h.2.2.2 = 0 then none else if q = 20 + e then (match decode (zxB x) h.2.2.1 with
          | .ok (.astore k, 2) => some (h.2.2.1 + 2, k)
          | .ok (.astore_n k, 1) => some (h.2.2.1 + 1, k.val)
          | _ => none) else if 20 ≤ q ∧ q < 23 then zctch x pc e t else none
      | none => none)
    else zctch x pc e t
def zcatch (mi pc e : Nat) : Option (Nat × Nat) := zctch (zmr mi) pc e (zxH (zmr mi))
abbrev znx (pc : Nat) (ls : zLs) (st : List zV) (M : zM) : Option zR := some (.inl (pc, ls, st, M))
def zlo : Int := -2147483648
def zhi : Int := 2147483647
/-- an int of 32 bits -/
abbrev zr32 (x : Int) : Prop := -2147483648 ≤ x ∧ x ≤ 2147483647
def zcond (c : ClassFile.Cond) (x y : Int) : Bool := match c with
  | .eq => decide (x = y)
  | .ne => decide (x ≠ y)
  | .lt => decide (x < y)
  | .ge => decide (y ≤ x)
  | .gt => decide (y < x)
  | .le => decide (x ≤ y)
def z1i (st : List zV) (f : Int → List zV → Option zR) : Option zR := match st with
  | .inl x :: r => f x r
  | _ => none
def z1l (st : List zV) (f : Int64 → List zV → Option zR) : Option zR := match st with
  | .inr (.inl x) :: r => f x r
  | _ => none
def z1a (st : List zV) (f : Nat → List zV → Option zR) : Option zR := match st with
  | .inr (.inr a) :: r => f a r
  | _ => none
def z2i (st : List zV) (f : Int → Int → List zV → Option zR) : Option zR := z1i st fun y r => z1i r fun x r => f x y r
def z2l (st : List zV) (f : Int64 → Int64 → List zV → Option zR) : Option zR := z1l st fun y r => z1l r fun x r => f x y r
def zil (st : List zV) (f : Int64 → Int → List zV → Option zR) : Option zR := z1i st fun y r => z1l r fun x r => f x y r
def zai (st : List zV) (f : Nat → Int → List zV → Option zR) : Option zR := z1i st fun j r => z1a r fun a r => f a j r
def zall (ls : zLs) (k : Nat) (f : zV → Option zR) : Option zR := match ls[k]? with
  | some (some v) => f v
  | _ => none
def zexec (K : Nat → Nat × Nat) (i : Instr) (v : Int) (k c n : Nat) (ls : zLs) (st : List zV) (M : zM) : Option zR := match i with
  | .iload _ => zall ls k fun v => z1i [v] fun x _ => znx n ls (.inl x :: st) M
  | .aload _ => zall ls k fun v => z1a [v] fun x _ => znx n ls (.inr (.inr x) :: st) M
  | .lload _ => zall ls k fun v => z1l [v] fun x _ => znx n ls (.inr (.inl x) :: st) M
  | .istore _ => z1i st fun x r => if k < ls.length then znx n (zst ls k (.inl x)) r M else none
  | .astore _ => z1a st fun x r => if k < ls.length then znx n (zst ls k (.inr (.inr x))) r M else none
  | .lstore _ => z1l st fun x r => if k + 1 < ls.length then znx n ((zst ls k (.inr (.inl x))).set (k + 1) none) r M else none
  | .iinc _ _ => zall ls k fun w => z1i [w] fun x _ => if zr32 (x + v) then znx n (zst ls k (.inl (x + v))) st M else none
  | .iconst _ => znx n ls (.inl v :: st) M
  | .ldc2_w _ => znx n ls (.inr (.inl (Int64.ofInt v)) :: st) M
  | .iadd => z2i st fun x y r => if zr32 (x + y) then znx n ls (.inl (x + y) :: r) M else none
  | .isub => z2i st fun x y r => if zr32 (x - y) then znx n ls (.inl (x - y) :: r) M else none
  | .imul => z2i st fun x y r => if zr32 (x * y) then znx n ls (.inl (x * y) :: r) M else none
  | .idiv => z2i st fun x y r => if y ≠ 0 ∧ (y = -1 → -2147483648 < x) then znx n ls (.inl (x.tdiv y) :: r) M else none
  | .irem => z2i st fun x y r => if y ≠ 0 ∧ (y = -1 → -2147483648 < x) then znx n ls (.inl (x.tmod y) :: r) M else none
  | .ineg => z1i st fun x r => if zr32 (-x) then znx n ls (.inl (-x) :: r) M else none
  | .iand => z2i st fun x y r => znx n ls (.inl (Int32.ofInt x &&& Int32.ofInt y).toInt :: r) M
  | .ior => z2i st fun x y r => znx n ls (.inl (Int32.ofInt x ||| Int32.ofInt y).toInt :: r) M
  | .ixor => z2i st fun x y r => znx n ls (.inl (Int32.ofInt x ^^^ Int32.ofInt y).toInt :: r) M
  | .ishl => z2i st fun x y r => znx n ls (.inl (Int32.ofInt x <<< (Int32.ofInt y &&& 31)).toInt :: r) M
  | .ishr => z2i st fun x y r => znx n ls (.inl (Int32.ofInt x >>> (Int32.ofInt y &&& 31)).toInt :: r) M
  | .land => z2l st fun x y r => znx n ls (.inr (.inl (x &&& y)) :: r) M
  | .lor => z2l st fun x y r => znx n ls (.inr (.inl (x ||| y)) :: r) M
  | .lxor => z2l st fun x y r => znx n ls (.inr (.inl (x ^^^ y)) :: r) M
  | .lshl => zil st fun x y r => znx n ls (.inr (.inl (x <<< ((Int32.ofInt y).toInt64 &&& 63))) :: r) M
  | .lshr => zil st fun x y r => znx n ls (.inr (.inl (x >>> ((Int32.ofInt y).toInt64 &&& 63))) :: r) M
  | .i2l => z1i st fun x r => znx n ls (.inr (.inl (Int32.ofInt x).toInt64) :: r) M
  | .lcmp => z2l st fun x y r => znx n ls (.inl (lg_cmp x y).toInt :: r) M
  | .dup => (match st with
    | v :: r => if zcat v = 1 then znx n ls (v :: v :: r) M else none
    | _ => none)
  | .dup2 => (match st with
    | v :: w :: r => if zcat v = 1 ∧ zcat w = 1 then znx n ls (v :: w :: v :: w :: r) M else none
    | _ => none)
  | .pop => (match st with
    | v :: r => if zcat v = 1 then znx n ls r M else none
    | _ => none)
  | .pop2 => z1a st fun _ r => if (r.map zcat).sum ≤ 8 then znx n ls r M else none
  | .goto _ => znx k ls st M
  | .ifCond q _ => z1i st fun x r => if zcond q x 0 = true then znx k ls r M else znx n ls r M
  | .if_icmp q _ => z2i st fun x y r => if zcond q x y = true then znx k ls r M else znx n ls r M
  | .tableswitch d lo hi offs => z1i st fun x r => if x < lo ∨ hi < x then znx d.toNat ls r M else (match offs[(x - lo).toNat]? with
    | some t => znx t.toNat ls r M
    | none => none)
  | .iaload => zai st fun a j r => if (K a).1 = 20 ∧ 0 ≤ j ∧ j < (K a).2 then znx n ls (.inl (M.2.1 a j.toNat) :: r) M else none
  | .baload => zai st fun a j r => if (K a).1 = 21 ∧ 0 ≤ j ∧ j < (K a).2 then znx n ls (.inl (M.2.1 a j.toNat) :: r) M else none
  | .laload => zai st fun a j r => if (K a).1 = 22 ∧ 0 ≤ j ∧ j < (K a).2 then znx n ls (.inr (.inl (M.2.2.1 a j.toNat)) :: r) M else none
  | .aaload => zai st fun a j r => if (23 ≤ (K a).1 ∧ (K a).1 ≤ 25) ∧ 0 ≤ j ∧ j < (K a).2 ∧ M.2.2.2 a j.toNat ≠ 0 then znx n ls (.inr (.inr (M.2.2.2 a j.toNat)) :: r) M else none
  | .iastore => z1i st fun w r => zai r fun a j r => if 2 ≤ a ∧ (K a).1 = 20 ∧ 0 ≤ j ∧ j < (K a).2 then znx n ls r (zsI M a j.toNat w) else none
  | .bastore => z1i st fun w r => zai r fun a j r => if 2 ≤ a ∧ (K a).1 = 21 ∧ 0 ≤ j ∧ j < (K a).2 ∧ (w = 0 ∨ w = 1) then znx n ls r (zsI M a j.toNat w) else none
  | .lastore => z1l st fun w r => zai r fun a j r => if 2 ≤ a ∧ (K a).1 = 22 ∧ 0 ≤ j ∧ j < (K a).2 then znx n ls r (zsL M a j.toNat w) else none
  | .aastore => z1a st fun w r => zai r fun a j r => if 2 ≤ a ∧ 2 ≤ w ∧ (((K a).1 = 23 ∧ (K w).1 = 7) ∨ ((K a).1 = 24 ∧ (K w).1 = 6) ∨ ((K a).1 = 25 ∧ (K w).1 = 1)) ∧ 0 ≤ j ∧ j < (K a).2 then znx n ls r (zsR M a j.toNat w) else none
  | .arraylength => z1a st fun a r => if (20 ≤ (K a).1 ∧ (K a).1 ≤ 25) ∧ (K a).2 ≤ 2147483647 then znx n ls (.inl ((K a).2 : Int) :: r) M else none
  | .getfield f => z1a st fun a r => if (K a).1 = c then (if f ≤ 1 then znx n ls (.inl (M.2.1 a k) :: r) M else if f = 2 then znx n ls (.inr (.inl (M.2.2.1 a k)) :: r) M else if M.2.2.2 a k ≠ 0 then znx n ls (.inr (.inr (M.2.2.2 a k)) :: r) M else none) else none
  | .putfield f => if f ≤ 1 then (z1i st fun w r => z1a r fun a r => if (K a).1 = c ∧ (f = 1 → (w = 0 ∨ w = 1)) then znx n ls r (zsI M a k w) else none) else if f = 2 then (z1l st fun w r => z1a r fun a r => if (K a).1 = c then znx n ls r (zsL M a k w) else none) else (z1a st fun w r => z1a r fun a r => if (K a).1 = c ∧ 0 < w then znx n ls r (zsR M a k w) else none)
  | .new _ => if M.1.2.1 = true ∧ (K (M.1.1 + 2)).1 = k then znx n ls (.inr (.inr (M.1.1 + 2)) :: st) (zborn M c) else none
  | .newarray _ => z1i st fun m r => if M.1.2.1 = true ∧ K (M.1.1 + 2) = (k, m.toNat) ∧ 0 ≤ m ∧ m * c ≤ 536870912 then znx n ls (.inr (.inr (M.1.1 + 2)) :: r) (zborn M m.toNat) else none
  | .anewarray _ => z1i st fun m r => if M.1.2.1 = true ∧ K (M.1.1 + 2) = (k, m.toNat) ∧ 0 ≤ m ∧ m * 4 ≤ 536870912 then znx n ls (.inr (.inr (M.1.1 + 2)) :: r) (zborn M m.toNat) else none
  | .invokestatic _ => if c ≤ st.length ∧ ((st.drop c).map zcat).sum ≤ 8 ∧ (zargs (st.take c).reverse).length ≤ zxL (zmr k) then some (.inr (.inr (.inl (k, (st.take c).reverse, n, st.drop c)))) else none
  | .invokevirtual _ => z1a (st.drop c) fun a r => if (K a).1 = (zmr k).1 ∧ (r.map zcat).sum ≤ 8 ∧ (zargs (.inr (.inr a) :: (st.take c).reverse)).length ≤ zxL (zmr k) then some (.inr (.inr (.inl (k, .inr (.inr a) :: (st.take c).reverse, n, r)))) else none
  | .ireturn => z1i st fun x r => if r = [] ∧ (v = 1 → (x = 0 ∨ x = 1)) then some (.inr (.inl (some (.inl x)))) else none
  | .lreturn => z1l st fun x r => if r = [] then some (.inr (.inl (some (.inr (.inl x))))) else none
  | .areturn => z1a st fun x r => if r = [] then some (.inr (.inl (some (.inr (.inr x))))) else none
  | .return_ => if st = [] then some (.inr (.inl none)) else none
  | .athrow => if (st.map zcat).sum ≤ 8 then some (.inr (.inr (.inr k))) else none
  | _ => none
def zcall (mi : Nat) (as : List zV) : zLs := zent (zmr mi) as
def zpush (v : Option zV) (st : List zV) : List zV := match v with
  | some x => x :: st
  | none => st
abbrev zC : Type := Nat × Nat × zLs × List zV × zM
def zclosed (K : Nat → Nat × Nat) (P : zC → zO → zM → Prop) : Prop := ∀ (mi pc : Nat) (ls : zLs) (st : List zV) (M : zM) (o : zOp), zop mi pc = some o →
  (∀ (pc' : Nat) (ls' : zLs) (st' : List zV) (M' : zM), zexec K o.1 o.2.1 o.2.2.1 o.2.2.2.1 o.2.2.2.2 ls st M = some (.inl (pc', ls', st', M')) → ∀ r M2, P (mi, pc', ls', st', M') r M2 → P (mi, pc, ls, st, M) r M2) ∧
  (∀ v, zexec K o.1 o.2.1 o.2.2.1 o.2.2.2.1 o.2.2.2.2 ls st M = some (.inr (.inl v)) → P (mi, pc, ls, st, M) (.inl v) M) ∧
  (∀ (m' : Nat) (as : List zV) (pc' : Nat) (st' : List zV), zexec K o.1 o.2.1 o.2.2.1 o.2.2.2.1 o.2.2.2.2 ls st M = some (.inr (.inr (.inl (m', as, pc', st')))) → ∀ (r1 : zO) (M1 : zM), P (m', 0, zcall m' as, [], M) r1 M1 →
    (∀ v, r1 = .inl v → ∀ r M2, P (mi, pc', ls, zpush v st', M1) r M2 → P (mi, pc, ls, st, M) r M2) ∧
    (∀ e, r1 = .inr e → (∀ h k, zcatch mi pc e = some (h, k) → k < ls.length → ∀ r M2, P (mi, h, (zst ls k (.inl 0)).set k none, [], M1) r M2 → P (mi, pc, ls, st, M) r M2) ∧
      (zxH (zmr mi) = [] → P (mi, pc, ls, st, M) (.inr e) M1))) ∧
  (∀ e, zexec K o.1 o.2.1 o.2.2.1 o.2.2.2.1 o.2.2.2.2 ls st M = some (.inr (.inr (.inr e))) → P (mi, pc, ls, st, M) (.inr e) (zthrown M))
/-- from c the interpreter comes to r, with memory M2 -/
def zBS (K : Nat → Nat × Nat) (c : zC) (r : zO) (M2 : zM) : Prop := ∀ P : zC → zO → zM → Prop, zclosed K P → P c r M2
theorem zBS_closed (K : Nat → Nat × Nat) : zclosed K (zBS K) := by
  intro mi pc ls st M o ho
  refine ⟨?_, ?_, ?_, ?_⟩
  · intro pc' ls' st' M' h r M2 hb P hP
    exact (hP mi pc ls st M o ho).1 pc' ls' st' M' h r M2 (hb P hP)
  · intro v h P hP
    exact (hP mi pc ls st M o ho).2.1 v h
  · intro m' as pc' st' h r1 M1 hb
    refine ⟨?_, ?_⟩
    · intro v hv r M2 hb2 P hP
      exact ((hP mi pc ls st M o ho).2.2.1 m' as pc' st' h r1 M1 (hb P hP)).1 v hv r M2 (hb2 P hP)
    · intro e he
      refine ⟨?_, ?_⟩
      · intro h' k hc hk r M2 hb2 P hP
        exact (((hP mi pc ls st M o ho).2.2.1 m' as pc' st' h r1 M1 (hb P hP)).2 e he).1 h' k hc hk r M2 (hb2 P hP)
      · intro hn P hP
        exact (((hP mi pc ls st M o ho).2.2.1 m' as pc' st' h r1 M1 (hb P hP)).2 e he).2 hn
  · intro e h P hP
    exact (hP mi pc ls st M o ho).2.2.2 e h
