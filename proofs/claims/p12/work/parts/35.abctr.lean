/-! contracts with a memo asked, pairs of slots, splits; one step of all instructions -/
/-- head slot, its value, tail slot, the tail's bounds then -/
abbrev APr : Type := Nat × Int × Nat × Int × Int
/-- a contract, the memo that it asks for, the method's kind, its class -/
abbrev ACt : Type := ACn × AM × Nat × Nat
/-- suspended pairs, the state -/
abbrev AX : Type := List Nat × AS
def PPr (W : AW) (P : Nat × List APr) (h : XH) (su : List Nat) : Prop := ∀ (i : Nat) (p : APr), P.2[i]? = some p → ¬ i ∈ su → ∀ k, k < W.2.2.2.1 → W.1 k = P.1 → ∀ x : Int32, rd h k p.1 = some (.int x) → x.toInt = p.2.1 → ∃ y : Int32, rd h k p.2.2.1 = some (.int y) ∧ p.2.2.2.1 ≤ y.toInt ∧ y.toInt ≤ p.2.2.2.2
def CQ (W : AW) (P : Nat × List APr) (h : XH) : Prop := P.1 = 66 → QS (vw W h) ∧ QW (vw W h) ∧ QL (vw W h)
def rok (P : Nat × List APr) (r : Nat) (i j : Int) : Bool := !Nat.beq P.1 66 || !rsup r i j
theorem rok_at {P : Nat × List APr} {r : Nat} {i j : Int} (h : rok P r i j = true) (hP : P.1 = 66) : rsup r i j = false := by
  unfold rok at h
  rw [hP] at h
  simpa using h
/-- pairs, and what the learnt courses say -/
def PInv (W : AW) (P : Nat × List APr) (h : XH) (su : List Nat) : Prop := PPr W P h su ∧ CQ W P h
/-- an answer as the alternative has it; one that is marked as a slot's is that slot's value behind the call -/
def aansH (W : AW) (h : XH) (o : Option AV) (v : Option Value) : Prop := aans W o v ∧ match o with
  | some a => 1000 ≤ a.2.2.2.2.2 → ∀ k, k < W.2.2.2.1 → W.1 k = a.2.2.2.2.2 / 1000 - 1 → rd h k (a.2.2.2.2.2 % 1000) = v
  | none => True
def AHp (W : AW) (P : Nat × List APr) (c : ACt) : Prop := (∃ M1, xM c.1.1 = some M1 ∧ xmK M1 = c.2.2.1 ∧ xmN M1 + (if xmK M1 = 0 then 0 else 1) = c.1.2.1.length ∧ xmC M1 = c.2.2.2) ∧
  ∀ (as : List Value) (h : XH), AInv W h → PInv W P h [] → gal W c.1.2.1 as → gmem W h c.2.1 → ∃ v h1, XCall xM c.1.2.2.2.2 c.1.1 as h v h1 ∧ AInv W h1 ∧ PInv W P h1 [] ∧ AFr W c.1.2.2.2.1 h h1 ∧
  ∃ o ∈ c.1.2.2.1, aansH W h1 o.1 v ∧ gmem W h1 o.2.1 ∧ ∀ q ∈ o.2.2, ∃ x : Int32, as[q.1]? = some (.int x) ∧ q.2.1 ≤ x.toInt ∧ x.toInt ≤ q.2.2
/-- an interval cut at numbers -/
def aspl : List Int → Int → Int → List (Int × Int)
  | [], lo, hi => [(lo, hi)]
  | v :: t, lo, hi => if lo ≤ v ∧ v ≤ hi then (if lo < v then [(lo, v - 1)] else []) ++ (v, v) :: (if v < hi then aspl t (v + 1) hi else []) else aspl t lo hi
/-- a hint: pc, kind (0 a local cut at numbers, 1 a slot, 2 a pair, 3 the pair of the element that is read next), what, which, the numbers -/
abbrev AHi : Type := Nat × Nat × Nat × Nat × List Int
def asl (W : AW) (m : AM) (r b : Nat) : Option (Int × Int) := match amem m r b with
  | some q => some q
  | none => match shA (W.2.1 r) b with
    | some s => if s.1 = 0 then some (s.2.1, s.2.2.1) else none
    | none => none
def apfd (P : Nat × List APr) (k n : Nat) (S : List AV) : Option APr := if k = 2 then P.2[n]? else match S with
  | i :: a :: _ => if i.2.1 = i.2.2.1 ∧ a.2.2.2.1 = P.1 then P.2.find? (fun p => decide ((p.1 : Int) = i.2.1)) else none
  | _ => none
def asplit (W : AW) (P : Nat × List APr) (hi : AHi) (q : AX) : List AX := match hi.2.1 with
  | 0 => match q.2.2.1[hi.2.2.1]? with
    | some (some a) => if a.1 = 0 then (aspl hi.2.2.2.2 a.2.1 a.2.2.1).map fun u => (q.1, q.2.1, q.2.2.1.set hi.2.2.1 (some (0, u.1, u.2, a.2.2.2.1, a.2.2.2.2.1, a.2.2.2.2.2)), q.2.2.2) else [q]
    | _ => [q]
  | 1 => if W.2.2.1 hi.2.2.1 = true then (match asl W q.2.2.2.2 hi.2.2.1 hi.2.2.2.1 with
    | some (lo, h) => (aspl hi.2.2.2.2 lo h).map fun u => (q.1, q.2.1, q.2.2.1, q.2.2.2.1, (hi.2.2.1, hi.2.2.2.1, u.1, u.2) :: q.2.2.2.2)
    | none => [q]) else [q]
  | _ => if W.2.2.1 P.1 = true ∧ q.1 = [] then (match apfd P hi.2.1 hi.2.2.1 q.2.2.2.1 with
    | some p => match asl W q.2.2.2.2 P.1 p.1 with
      | some (lo, h) => (aspl [p.2.1] lo h).map fun u => (q.1, q.2.1, q.2.2.1, q.2.2.2.1, if u.1 = p.2.1 ∧ u.2 = p.2.1 then (P.1, p.1, u.1, u.2) :: (P.1, p.2.2.1, p.2.2.2.1, p.2.2.2.2) :: q.2.2.2.2 else (P.1, p.1, u.1, u.2) :: q.2.2.2.2)
      | none => [q]
    | none => [q]) else [q]
/-- a pair holds by what is remembered -/
def apok (r : Nat) (m : AM) (p : APr) : Bool := (match amem m r p.1 with
  | some (lo, hi) => decide (p.2.1 < lo) || decide (hi < p.2.1)
  | none => false) || (match amem m r p.2.2.1 with
  | some (lo, hi) => decide (p.2.2.2.1 ≤ lo) && decide (hi ≤ p.2.2.2.2)
  | none => false)
def abtw (i : Int) (b : Nat) (j : Int) : Bool := decide (i ≤ (b : Int)) && decide ((b : Int) ≤ j)
def apw (r : Nat) (i j : Int) (m : AM) (su : List Nat) : Nat → List APr → List Nat
  | _, [] => []
  | n, p :: t => if (if abtw i p.1 j || abtw i p.2.2.1 j then apok r m p else !su.contains n) = true then apw r i j m su (n + 1) t else n :: apw r i j m su (n + 1) t
/-- bounds of a slot are remembered so -/
def ament (m : AM) (q : Nat × Nat × Int × Int) : Bool := match amem m q.1 q.2.1 with
  | some (lo, hi) => decide (q.2.2.1 ≤ lo) && decide (hi ≤ q.2.2.2)
  | none => false
def alls : List AV → List AV → Bool
  | [], [] => true
  | a :: s, b :: t => ale a b && alls s t
  | _, _ => false
def acat : List AV → Nat
  | [] => 0
  | a :: t => (if a.1 = 1 then 2 else 1) + acat t
/-- what an alternative says of the arguments, told -/
def atold (As : List AV) : List (Nat × Int × Int) → List (Option AV) × AM → Option (List (Option AV) × AM)
  | [], q => some q
  | (j, lo, hi) :: t, q => match As[j]? with
    | some a => if a.1 = 0 then (if max lo a.2.1 ≤ min hi a.2.2.1 then atold As t (atell a (max lo a.2.1) (min hi a.2.2.1) q) else none) else atold As t q
    | none => atold As t q
def awin (ws : AWr) (cs : AWr) : Bool := cs.all fun w => azin ws w.1 w.2.1 w.2.2
def arcv (W : AW) (k ci : Nat) (As : List AV) : Bool := if k = 0 then true else match As with
  | a :: _ => a.1 == 2 && (decide (2 ≤ a.2.2.2.1) && ((W.2.1 a.2.2.2.1).1 == 0 && (W.2.1 a.2.2.2.1).2.1 == ci))
  | [] => false
def aslot2 (a : AV) : AV := if a.1 = 0 then (0, a.2.1, a.2.2.1, 0, 0, if 1000 ≤ a.2.2.2.2.2 then a.2.2.2.2.2 else 0) else (a.1, 0, 0, a.2.2.2.1, 0, 0)
def aalt (As : List AV) (q : Nat) (A : List (Option AV)) (R : List AV) (m : AM) (cs : AWr) : List AAlt → List AS
  | [] => []
  | o :: t => match atold As o.2.2 (A, m) with
    | some u => (q, u.1.map (Option.map (aunW cs)), (match o.1 with
      | some a => aslot2 a :: R.map (aunW cs)
      | none => R.map (aunW cs)), o.2.1 ++ aforW cs u.2) :: aalt As q A R m cs t
    | none => aalt As q A R m cs t
def acall (W : AW) (ws : AWr) (d : Nat) (ct : ACt) (r : XRow) (q : Nat) (A : List (Option AV)) (S : List AV) (m : AM) : Option (List AS) :=
  if r.2.2.2.1 = ct.1.1 ∧ ct.2.1.all (ament m) = true ∧ xinv r.2.1 ct.2.2.1 = true ∧ alls (S.take ct.1.2.1.length).reverse ct.1.2.1 = true ∧ arcv W ct.2.2.1 ct.2.2.2 (S.take ct.1.2.1.length).reverse = true ∧ acat (S.drop ct.1.2.1.length) ≤ 8 ∧ awin ws ct.1.2.2.2.1 = true ∧ ct.1.2.2.2.2 ≤ d then
    some (aalt (S.take ct.1.2.1.length).reverse q A (S.drop ct.1.2.1.length) m ct.1.2.2.2.1 ct.1.2.2.1) else none
/-- one step that leaves the heap -/
def ast0 (W : AW) (r : XRow) (pc : Nat) (A : List (Option AV)) (S : List AV) (m : AM) : Option (List AS) := match r.2.1 with
  | .ifnull _ => anull r.2.2.2.1 (pc + 3) A S m
  | .ifnonnull _ => anull (pc + 3) r.2.2.2.1 A S m
  | .iinc i d => ainc (pc + 3) i (Int32.ofInt d).toInt A S m
  | .lstore_n k => azlst (pc + 1) k A S m
  | .lstore k => azlst (pc + 2) k A S m
  | .getfield _ => if r.2.2.2.1 = 98 then azsf r.2.2.2.2.1 (pc + 3) A S m else azgf W r.2.2.2.1 r.2.2.2.2.1 (pc + 3) A S m
  | .baload => match azel W 1 (pc + 1) A S m with
    | some l => some l
    | none => azel W 4 (pc + 1) A S m
  | .ldc _ => azldc r.2.2.2.1 (pc + 2) A S m
  | .getstatic _ => azgst r.2.2.2.1 (pc + 3) A S m
  | .tableswitch d lo hi offs => aztsw2 pc d lo hi offs A S m
  | .lookupswitch d ps => azlsw pc d ps A S m
  | .ineg => az2 W r.2.1 pc A S m
  | .i2c => az2 W r.2.1 pc A S m
  | .i2l => az2 W r.2.1 pc A S m
  | .l2i => az2 W r.2.1 pc A S m
  | .lcmp => az2 W r.2.1 pc A S m
  | .idiv => az2 W r.2.1 pc A S m
  | .irem => az2 W r.2.1 pc A S m
  | .dup => az2 W r.2.1 pc A S m
  | .dup2 => az2 W r.2.1 pc A S m
  | .pop => az2 W r.2.1 pc A S m
  | i => az1 W i r.2.2.2.1 r.2.2.2.2.1 pc A S m
def asu (su : List Nat) (l : Option (List AS)) : Option (List AX) := match l with
  | some l => some (l.map fun s => (su, s))
  | none => none
/-- an element written; the pairs that it touches -/
def asta (W : AW) (P : Nat × List APr) (ws : AWr) (t pc : Nat) (su : List Nat) (A : List (Option AV)) (S : List AV) (m : AM) : Option (List AX) := match S with
  | _ :: i :: a :: _ => if azin ws a.2.2.2.1 i.2.1 i.2.2.1 = true ∧ rok P a.2.2.2.1 i.2.1 i.2.2.1 = true then (match azas W [(a.2.2.2.1, i.2.1, i.2.2.1)] t (pc + 1) A S m with
    | some l => some (l.map fun s => (if a.2.2.2.1 = P.1 then apw P.1 i.2.1 i.2.2.1 s.2.2.2 su 0 P.2 else su, s))
    | none => none) else none
  | _ => none
def astf (W : AW) (P : Nat × List APr) (ws : AWr) (ci b pc : Nat) (su : List Nat) (A : List (Option AV)) (S : List AV) (m : AM) : Option (List AX) := match S with
  | _ :: a :: _ => if azin ws a.2.2.2.1 b b = true ∧ ¬ a.2.2.2.1 = P.1 ∧ rok P a.2.2.2.1 b b = true then asu su (azpf W [(a.2.2.2.1, b, b)] ci b (pc + 3) A S m) else none
  | _ => none
def astc (W : AW) (P : Nat × List APr) (ws : AWr) (pc : Nat) (su : List Nat) (A : List (Option AV)) (S : List AV) (m : AM) : Option (List AX) := match S with
  | n :: _ :: a :: _ => if azin ws a.2.2.2.1 0 (n.2.1 - 1) = true ∧ ¬ a.2.2.2.1 = P.1 ∧ rok P a.2.2.2.1 0 (n.2.1 - 1) = true then asu su (azcp W [(a.2.2.2.1, 0, n.2.1 - 1)] (pc + 3) A S m) else none
  | _ => none
def afd (cs : List (Nat × ACt)) (pc : Nat) : Option ACt := match cs with
  | [] => none
  | c :: t => if c.1 = pc then some c.2 else afd t pc
/-- the contracts for a place: the first that does -/
def acal (W : AW) (ws : AWr) (d : Nat) (r : XRow) (pc : Nat) (A : List (Option AV)) (S : List AV) (m : AM) : List (Nat × ACt) → Option (List AS)
  | [] => none
  | c :: t => match Nat.beq c.1 pc with
    | true => (match acall W ws d c.2 r (pc + 3) A S m with
      | some l => some l
      | none => acal W ws d r pc A S m t)
    | false => acal W ws d r pc A S m t
def astep (W : AW) (P : Nat × List APr) (ws : AWr) (d : Nat) (cs : List (Nat × ACt)) (r : XRow) (q : AX) : Option (List AX) := match r.2.1 with
  | .putfield _ => astf W P ws r.2.2.2.1 r.2.2.2.2.1 q.2.1 q.1 q.2.2.1 q.2.2.2.1 q.2.2.2.2
  | .iastore => asta W P ws 0 q.2.1 q.1 q.2.2.1 q.2.2.2.1 q.2.2.2.2
  | .bastore => asta W P ws 1 q.2.1 q.1 q.2.2.1 q.2.2.2.1 q.2.2.2.2
  | .invokestatic _ => if r.2.2.2.1 = 998 then astc W P ws q.2.1 q.1 q.2.2.1 q.2.2.2.1 q.2.2.2.2 else if r.2.2.2.1 = 996 then asu q.1 (azmin (q.2.1 + 3) q.2.2.1 q.2.2.2.1 q.2.2.2.2) else if q.1 = [] then asu [] (acal W ws d r q.2.1 q.2.2.1 q.2.2.2.1 q.2.2.2.2 cs) else none
  | .invokevirtual _ => if q.1 = [] then asu [] (acal W ws d r q.2.1 q.2.2.1 q.2.2.2.1 q.2.2.2.2 cs) else none
  | .invokespecial _ => if q.1 = [] then asu [] (acal W ws d r q.2.1 q.2.2.1 q.2.2.2.1 q.2.2.2.2 cs) else none
  | _ => asu q.1 (ast0 W r q.2.1 q.2.2.1 q.2.2.2.1 q.2.2.2.2)
