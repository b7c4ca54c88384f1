/-! THE MACHINE OF PLACES. A heap of places 0, 1, 2 .. (0: the static row ABOVE, 1: the script, from 2 on what the run has made, in its order); a value's .ref is a place. One step of the bytecode over it is a function ('xst', 'xhp'); a call is a relation ('XCall'). What is walked here is walked on the JVM: 'x_sound'. -/
abbrev XE : Type := (Nat × List Value) ⊕ ((Nat × Nat × (Nat → Int32)) ⊕ (Nat × Nat × (Nat → Option Nat)))
abbrev XH : Type := Nat × Nat × (Nat → XE)
abbrev XL : Type := List (Option Value)
abbrev XRow : Type := Nat × Instr × Nat × Nat × Nat × Nat
abbrev XMeth : Type := MethodName × ByteArray × Nat × Option FieldType × Nat × Nat × Nat × List Nat × List XRow
abbrev XG : Type := va_G × (Nat → ClassId) × (Nat → Nat) × Heap × (Nat → Nat × (Nat → Int32))
abbrev XO : Type := Nat × XL × List Value
def xfree (L : XL) : Nat → Bool
  | 0 => true
  | j + 1 => match L[j]? with
    | some (some v) => v.category != 2
    | _ => true
def xldi (q : Nat) (L : XL) (st : List Value) (i : Nat) : Option XO := match L[i]? with
  | some (some (.int v)) => some (q, L, .int v :: st)
  | _ => none
def xldl (q : Nat) (L : XL) (st : List Value) (i : Nat) : Option XO := match L[i]? with
  | some (some (.long v)) => some (q, L, .long v :: st)
  | _ => none
def xlda (q : Nat) (L : XL) (st : List Value) (i : Nat) : Option XO := match L[i]? with
  | some (some (.ref v)) => some (q, L, .ref v :: st)
  | some (some .null) => some (q, L, .null :: st)
  | _ => none
def xsti (q : Nat) (L : XL) (st : List Value) (i : Nat) : Option XO := match st with
  | .int v :: r => if i < L.length ∧ xfree L i = true then some (q, L.set i (some (.int v)), r) else none
  | _ => none
def xsta (q : Nat) (L : XL) (st : List Value) (i : Nat) : Option XO := match st with
  | .ref v :: r => if i < L.length ∧ xfree L i = true then some (q, L.set i (some (.ref v)), r) else none
  | .null :: r => if i < L.length ∧ xfree L i = true then some (q, L.set i (some .null), r) else none
  | _ => none
def xstl (q : Nat) (L : XL) (st : List Value) (i : Nat) : Option XO := match st with
  | .long v :: r => if i + 1 < L.length ∧ xfree L i = true then some (q, (L.set i (some (.long v))).set (i + 1) none, r) else none
  | _ => none
def xb2 (f : Int32 → Int32 → Int32) (q : Nat) (L : XL) (st : List Value) : Option XO := match st with
  | .int y :: .int x :: r => some (q, L, .int (f x y) :: r)
  | _ => none
def xl2 (f : Int64 → Int64 → Int64) (q : Nat) (L : XL) (st : List Value) : Option XO := match st with
  | .long y :: .long x :: r => some (q, L, .long (f x y) :: r)
  | _ => none
def xls (f : Int64 → Int32 → Int64) (q : Nat) (L : XL) (st : List Value) : Option XO := match st with
  | .int y :: .long x :: r => some (q, L, .long (f x y) :: r)
  | _ => none
def xlen (h : XH) (k : Nat) : Option Nat := if k < h.1 then (match h.2.2 k with
  | .inr (.inl q) => if q.1 < 2 ∨ q.1 = 4 ∧ k < 13 then some q.2.1 else none
  | .inr (.inr q) => if 13 ≤ k ∧ (q.1 = 2 ∨ q.1 = 3) then some q.2.1 else none
  | .inl _ => none) else none
/-- an element of a row of ints (t 0) or of booleans (t 1) -/
def xia (h : XH) (t k : Nat) (i : Int32) : Option Int32 := match h.2.2 k with
  | .inr (.inl q) => if k < h.1 ∧ q.1 = t ∧ ¬ (i < 0 ∨ q.2.1 ≤ i.toNatClampNeg) then some (q.2.2 i.toNatClampNeg) else none
  | _ => none
/-- a byte of a String constant -/
def xib (h : XH) (k : Nat) (i : Int32) : Option Int32 := match h.2.2 k with
  | .inr (.inl q) => if k < h.1 ∧ k < 13 ∧ q.1 = 4 ∧ ¬ (i < 0 ∨ q.2.1 ≤ i.toNatClampNeg) then some (q.2.2 i.toNatClampNeg) else none
  | _ => none
/-- a field of a String constant: 0 its bytes, 1 its coder -/
def xsf (k b : Nat) : Option Value := if 2 ≤ k ∧ k < 7 then (if b = 0 then some (.ref (k + 5)) else some (.int 0)) else none
def xsb (i : Nat) : List Int32 := match i with
  | 0 => [108, 105, 102, 101]
  | 1 => [101, 118, 101, 114]
  | 2 => [108, 105, 102, 101]
  | 3 => [101, 118, 101, 114]
  | _ => [32, 105, 102, 32]
def xsr (i : Nat) : String × Nat × String := match i with
  | 0 => ("LifeGrants$Reader", 68, "life")
  | 1 => ("LifeGrants$Reader", 74, "ever")
  | 2 => ("LifeGrantsModel", 115, "life")
  | 3 => ("LifeGrantsModel", 121, "ever")
  | _ => ("LifeGrantsModel", 129, " if ")
/-- what stands in a static field: 0 ABOVE, 1 COMPACT_STRINGS, else the formatter -/
def xnl (h : XH) : Bool := match h.2.2 12 with
  | .inl o => Nat.beq o.1 97
  | .inr _ => false
def xsv (h : XH) (a : Nat) : Value := if a = 0 then .ref 0 else if a = 1 then .int 1 else if xnl h = true then .ref 12 else .null
def xra (h : XH) (k : Nat) (i : Int32) : Option (Option Nat) := match h.2.2 k with
  | .inr (.inr q) => if k < h.1 ∧ 13 ≤ k ∧ (q.1 = 2 ∨ q.1 = 3) ∧ ¬ (i < 0 ∨ q.2.1 ≤ i.toNatClampNeg) then some (q.2.2 i.toNatClampNeg) else none
  | _ => none
def xfd (h : XH) (k ci b : Nat) : Option Value := match h.2.2 k with
  | .inl o => if k < h.1 ∧ 13 ≤ k ∧ o.1 = ci then o.2[b]? else none
  | _ => none
/-- one step that leaves the heap: a the target of a jump, or the class of a field; b the field's slot, or a long's number -/
def xst (ins : Instr) (a b pc : Nat) (L : XL) (st : List Value) (h : XH) : Option XO := match ins with
  | .iconst n => some (pc + 1, L, .int (Int32.ofInt n) :: st)
  | .bipush n => some (pc + 2, L, .int (Int8.ofInt n).toInt32 :: st)
  | .sipush n => some (pc + 3, L, .int (Int16.ofInt n).toInt32 :: st)
  | .lconst n => some (pc + 1, L, .long (Int64.ofNat (n : Nat)) :: st)
  | .ldc2_w _ => some (pc + 3, L, .long (Int64.ofNat a) :: st)
  | .aconst_null => some (pc + 1, L, .null :: st)
  | .iload_n k => xldi (pc + 1) L st k
  | .iload k => xldi (pc + 2) L st k
  | .lload_n k => xldl (pc + 1) L st k
  | .lload k => xldl (pc + 2) L st k
  | .aload_n k => xlda (pc + 1) L st k
  | .aload k => xlda (pc + 2) L st k
  | .istore_n k => xsti (pc + 1) L st k
  | .istore k => xsti (pc + 2) L st k
  | .astore_n k => xsta (pc + 1) L st k
  | .astore k => xsta (pc + 2) L st k
  | .lstore_n k => xstl (pc + 1) L st k
  | .lstore k => xstl (pc + 2) L st k
  | .iadd => xb2 (fun x y => x + y) (pc + 1) L st
  | .isub => xb2 (fun x y => x - y) (pc + 1) L st
  | .imul => xb2 (fun x y => x * y) (pc + 1) L st
  | .iand => xb2 (fun x y => x &&& y) (pc + 1) L st
  | .ior => xb2 (fun x y => x ||| y) (pc + 1) L st
  | .ixor => xb2 (fun x y => x ^^^ y) (pc + 1) L st
  | .ishl => xb2 (fun x y => x <<< (y &&& 31)) (pc + 1) L st
  | .ishr => xb2 (fun x y => x >>> (y &&& 31)) (pc + 1) L st
  | .iushr => xb2 (fun x y => (x.toUInt32 >>> (y.toUInt32 &&& Int32.toUInt32 31)).toInt32) (pc + 1) L st
  | .ldc_w _ => some (pc + 3, L, .int (Int32.ofNat a) :: st)
  | .ladd => xl2 (fun x y => x + y) (pc + 1) L st
  | .lsub => xl2 (fun x y => x - y) (pc + 1) L st
  | .lushr => xls (fun x y => (x.toUInt64 >>> (y.toInt64.toUInt64 &&& Int64.toUInt64 63)).toInt64) (pc + 1) L st
  | .idiv => match st with
    | .int y :: .int x :: r => if y = 0 then none else some (pc + 1, L, .int (x / y) :: r)
    | _ => none
  | .irem => match st with
    | .int y :: .int x :: r => if y = 0 then none else some (pc + 1, L, .int (x - x / y * y) :: r)
    | _ => none
  | .ineg => match st with
    | .int x :: r => some (pc + 1, L, .int (-x) :: r)
    | _ => none
  | .land => xl2 (fun x y => x &&& y) (pc + 1) L st
  | .lor => xl2 (fun x y => x ||| y) (pc + 1) L st
  | .lshl => xls (fun x y => x <<< (y.toInt64 &&& 63)) (pc + 1) L st
  | .lshr => xls (fun x y => x >>> (y.toInt64 &&& 63)) (pc + 1) L st
  | .lcmp => match st with
    | .long y :: .long x :: r => some (pc + 1, L, .int (lg_cmp x y) :: r)
    | _ => none
  | .i2l => match st with
    | .int x :: r => some (pc + 1, L, .long x.toInt64 :: r)
    | _ => none
  | .l2i => match st with
    | .long x :: r => some (pc + 1, L, .int x.toInt32 :: r)
    | _ => none
  | .dup => match st with
    | v :: r => if v.category = 1 then some (pc + 1, L, v :: v :: r) else none
    | _ => none
  | .dup2 => match st with
    | v :: w :: r => if v.category = 1 ∧ w.category = 1 then some (pc + 1, L, v :: w :: v :: w :: r) else none
    | _ => none
  | .iinc i n => match L[i]? with
    | some (some (.int v)) => if xfree L i = true then some (pc + 3, L.set i (some (.int (v + Int32.ofInt n))), st) else none
    | _ => none
  | .goto _ => some (a, L, st)
  | .if_icmp .eq _ => match st with
    | .int y :: .int x :: r => some (if x = y then a else pc + 3, L, r)
    | _ => none
  | .if_icmp .ne _ => match st with
    | .int y :: .int x :: r => some (if x = y then pc + 3 else a, L, r)
    | _ => none
  | .if_icmp .lt _ => match st with
    | .int y :: .int x :: r => some (if x < y then a else pc + 3, L, r)
    | _ => none
  | .if_icmp .le _ => match st with
    | .int y :: .int x :: r => some (if x ≤ y then a else pc + 3, L, r)
    | _ => none
  | .if_icmp .gt _ => match st with
    | .int y :: .int x :: r => some (if y < x then a else pc + 3, L, r)
    | _ => none
  | .if_icmp .ge _ => match st with
    | .int y :: .int x :: r => some (if y ≤ x then a else pc + 3, L, r)
    | _ => none
  | .ifCond .eq _ => match st with
    | .int x :: r => some (if x = 0 then a else pc + 3, L, r)
    | _ => none
  | .ifCond .ne _ => match st with
    | .int x :: r => some (if x = 0 then pc + 3 else a, L, r)
    | _ => none
  | .ifCond .lt _ => match st with
    | .int x :: r => some (if x < 0 then a else pc + 3, L, r)
    | _ => none
  | .ifCond .le _ => match st with
    | .int x :: r => some (if x ≤ 0 then a else pc + 3, L, r)
    | _ => none
  | .ifCond .gt _ => match st with
    | .int x :: r => some (if 0 < x then a else pc + 3, L, r)
    | _ => none
  | .ifCond .ge _ => match st with
    | .int x :: r => some (if 0 ≤ x then a else pc + 3, L, r)
    | _ => none
  | .ifnull _ => match st with
    | .null :: r => some (a, L, r)
    | .ref _ :: r => some (pc + 3, L, r)
    | _ => none
  | .ifnonnull _ => match st with
    | .null :: r => some (pc + 3, L, r)
    | .ref _ :: r => some (a, L, r)
    | _ => none
  | .arraylength => match st with
    | .ref k :: r => match xlen h k with
      | some n => some (pc + 1, L, .int (Int32.ofNat n) :: r)
      | none => none
    | _ => none
  | .iaload => match st with
    | .int i :: .ref k :: r => match xia h 0 k i with
      | some v => some (pc + 1, L, .int v :: r)
      | none => none
    | _ => none
  | .baload => match st with
    | .int i :: .ref k :: r => match xia h 1 k i with
      | some v => some (pc + 1, L, .int v :: r)
      | none => match xib h k i with
        | some v => some (pc + 1, L, .int v :: r)
        | none => none
    | _ => none
  | .aaload => match st with
    | .int i :: .ref k :: r => match xra h k i with
      | some v => some (pc + 1, L, va_rf v :: r)
      | none => none
    | _ => none
  | .getfield _ => if a = 98 then (match st with
    | .ref k :: r => match xsf k b with
      | some v => some (pc + 3, L, v :: r)
      | none => none
    | _ => none) else (match st with
    | .ref k :: r => match xfd h k a b with
      | some v => some (pc + 3, L, v :: r)
      | none => none
    | _ => none)
  | .ldc _ => if 2 ≤ a ∧ a < 7 then some (pc + 2, L, .ref a :: st) else none
  | .i2c => match st with
    | .int x :: r => some (pc + 1, L, .int (x.toUInt32 % 65536).toInt32 :: r)
    | _ => none
  | .pop => match st with
    | v :: r => if v.category = 1 then some (pc + 1, L, r) else none
    | _ => none
  | .getstatic _ => some (pc + 3, L, xsv h a :: st)
  | .invokespecial _ => if a = 999 then (match st with
    | .ref _ :: r => if (r.map fun v => v.category).sum ≤ 8 then some (pc + 3, L, r) else none
    | _ => none) else none
  | .tableswitch d lo hi offs => match st with
    | .int x :: r => if x.toInt < lo ∨ hi < x.toInt then (if 0 ≤ (pc : Int) + d then some (((pc : Int) + d).toNat, L, r) else none) else
      (match offs[(x.toInt - lo).toNat]? with
      | some o => if 0 ≤ (pc : Int) + o then some (((pc : Int) + o).toNat, L, r) else none
      | none => none)
    | _ => none
  | .lookupswitch d ps => match st with
    | .int x :: r => if 0 ≤ (pc : Int) + Op.lookupswitch.offset ps.toList d x.toInt then some (((pc : Int) + Op.lookupswitch.offset ps.toList d x.toInt).toNat, L, r) else none
    | _ => none
  | _ => none
def xup (h : XH) (k : Nat) (e : XE) : XH := (h.1, h.2.1, fun j => if j = k then e else h.2.2 j)
def xnew (h : XH) (n : Nat) (e : XE) : XH := (h.1 + 1, h.2.1 + n, fun j => if j = h.1 then e else h.2.2 j)
def xty (ci k : Nat) : FieldType := match ci with
  | 0 => tyX0 k
  | 1 => tyX1 k
  | 2 => tyX2 k
  | 3 => tyX3 k
  | 4 => tyX4 k
  | 5 => tyX5 k
  | 6 => tyX6 k
  | _ => tyX7 k
def xnum (ci : Nat) : Nat := match ci with
  | 0 => 12
  | 1 => 3
  | 2 => 3
  | 3 => 4
  | 4 => 7
  | 5 => 15
  | 6 => 9
  | _ => 25
def xdef (ci : Nat) : List Value := (List.range (xnum ci)).map fun k => defaultValue (xty ci k)
/-- the class of what a row of kind t holds -/
def xcomp (t : Nat) : Nat := t - 2
/-- one step that changes the heap: its length, the stack, the heap behind it -/
def xhp (ins : Instr) (a b : Nat) (st : List Value) (h : XH) : Option (Nat × List Value × XH) := match ins with
  | .putfield _ => match st with
    | v :: .ref k :: r => match h.2.2 k with
      | .inl o => if k < h.1 ∧ 13 ≤ k ∧ o.1 = a ∧ b < o.2.length ∧ fits (xty a b) v = true ∧ narrow (xty a b) v = v then some (3, r, xup h k (.inl (o.1, o.2.set b v))) else none
      | _ => none
    | _ => none
  | .iastore => match st with
    | .int x :: .int i :: .ref k :: r => match h.2.2 k with
      | .inr (.inl q) => if k < h.1 ∧ 13 ≤ k ∧ q.1 = 0 ∧ ¬ (i < 0 ∨ q.2.1 ≤ i.toNatClampNeg) then some (1, r, xup h k (.inr (.inl (q.1, q.2.1, upd q.2.2 i.toNatClampNeg x)))) else none
      | _ => none
    | _ => none
  | .bastore => match st with
    | .int x :: .int i :: .ref k :: r => match h.2.2 k with
      | .inr (.inl q) => if k < h.1 ∧ 13 ≤ k ∧ q.1 = 1 ∧ ¬ (i < 0 ∨ q.2.1 ≤ i.toNatClampNeg) then some (1, r, xup h k (.inr (.inl (q.1, q.2.1, upd q.2.2 i.toNatClampNeg (vp_nar .boolean x))))) else none
      | _ => none
    | _ => none
  | .aastore => match st with
    | .ref v :: .int i :: .ref k :: r => match h.2.2 k, h.2.2 v with
      | .inr (.inr q), .inl o => if k < h.1 ∧ 13 ≤ k ∧ v < h.1 ∧ 13 ≤ v ∧ (q.1 = 2 ∧ o.1 = 0 ∨ q.1 = 3 ∧ o.1 = 1) ∧ ¬ (i < 0 ∨ q.2.1 ≤ i.toNatClampNeg) then some (1, r, xup h k (.inr (.inr (q.1, q.2.1, va_up q.2.2 i.toNatClampNeg (some v))))) else none
      | _, _ => none
    | _ => none
  | .new _ => some (3, .ref h.1 :: st, xnew h (xnum a) (.inl (a, xdef a)))
  | .newarray _ => match st with
    | .int n :: r => if ¬ n < 0 ∧ n.toNatClampNeg ≤ 1000 then some (2, .ref h.1 :: r, xnew h n.toNatClampNeg (.inr (.inl (b, n.toNatClampNeg, fun _ => 0)))) else none
    | _ => none
  | .anewarray _ => match st with
    | .int n :: r => if ¬ n < 0 ∧ n.toNatClampNeg ≤ 1000 then some (3, .ref h.1 :: r, xnew h n.toNatClampNeg (.inr (.inr (b, n.toNatClampNeg, fun _ => none)))) else none
    | _ => none
  | .invokestatic _ => if a = 998 then (match st with
    | .int n :: .int dp :: .ref k :: .int sp :: .ref j :: r => match h.2.2 k, h.2.2 j with
      | .inr (.inl q), .inr (.inl o) => if k < h.1 ∧ 13 ≤ k ∧ j < h.1 ∧ 13 ≤ j ∧ q.1 = 0 ∧ o.1 = 0 ∧ ¬ sp < 0 ∧ ¬ dp < 0 ∧ ¬ n < 0 ∧ sp.toNatClampNeg + n.toNatClampNeg ≤ o.2.1 ∧ dp.toNatClampNeg + n.toNatClampNeg ≤ q.2.1 ∧ (r.map fun v => v.category).sum ≤ 8 then some (3, r, xup h k (.inr (.inl (q.1, q.2.1, va_cpy o.2.2 q.2.2 sp.toNatClampNeg dp.toNatClampNeg n.toNatClampNeg)))) else none
      | _, _ => none
    | _ => none) else if a = 996 then (match st with
    | .int y :: .int x :: r => if (r.map fun v => v.category).sum ≤ 8 then some (3, .int (if y < x then y else x) :: r, h) else none
    | _ => none) else none
  | _ => none
/-- an instruction's length (of the two switches: as the row says) -/
def xil (ins : Instr) (n : Nat) : Nat := match ins with
  | .tableswitch .. => n
  | .lookupswitch .. => n
  | .bipush _ => 2
  | .iload _ => 2
  | .lload _ => 2
  | .aload _ => 2
  | .istore _ => 2
  | .lstore _ => 2
  | .astore _ => 2
  | .newarray _ => 2
  | .ldc _ => 2
  | .sipush _ => 3
  | .ldc2_w _ => 3
  | .ldc_w _ => 3
  | .iinc .. => 3
  | .goto _ => 3
  | .if_icmp .. => 3
  | .ifCond .. => 3
  | .ifnull _ => 3
  | .ifnonnull _ => 3
  | .getfield _ => 3
  | .putfield _ => 3
  | .getstatic _ => 3
  | .new _ => 3
  | .anewarray _ => 3
  | .invokevirtual _ => 3
  | .invokespecial _ => 3
  | .invokestatic _ => 3
  | _ => 1
