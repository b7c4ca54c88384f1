/-! one step of the abstract walk -/
/-- an alternative of a contract: the answer, bounds of slots behind the call, bounds of the arguments; a contract: method, arguments, alternatives, writes, depth -/
abbrev AAlt : Type := Option AV × AM × List (Nat × Int × Int)
abbrev ACn : Type := Nat × List AV × List AAlt × AWr × Nat
def ale (a b : AV) : Bool := match b.1, a.1 with
  | 0, 0 => decide (b.2.1 ≤ a.2.1) && decide (a.2.2.1 ≤ b.2.2.1)
  | 1, 1 => true
  | 2, 2 => a.2.2.2.1 == b.2.2.2.1
  | 3, 2 => a.2.2.2.1 == b.2.2.2.1
  | 3, 3 => a.2.2.2.1 == b.2.2.2.1
  | 3, 4 => true
  | 4, 4 => true
  | _, _ => false
/-- a stored value has no marks -/
def ain (a : AV) : AV := (a.1, a.2.1, a.2.2.1, a.2.2.2.1, a.2.2.2.2.1, 0)
/-- a slot's value has none of a local's marks either -/
def aslot (a : AV) : AV := if a.1 = 0 then avI a.2.1 a.2.2.1 else (a.1, 0, 0, a.2.2.2.1, 0, 0)
def akey (r b : Nat) : Nat := 1000 * (r + 1) + b
def amem (m : AM) (r b : Nat) : Option (Int × Int) := match m.find? fun q => q.1 == r && q.2.1 == b with
  | some q => some (q.2.2.1, q.2.2.2)
  | none => none
/-- a slot read: its bounds, and what is remembered of it -/
def aread (W : AW) (m : AM) (r b : Nat) (s : AV) : AV := if s.1 = 0 ∧ W.2.2.1 r = true ∧ b < 1000 then (match amem m r b with
  | some (lo, hi) => (0, max lo s.2.1, min hi s.2.2.1, 0, 0, akey r b)
  | none => (0, s.2.1, s.2.2.1, 0, 0, akey r b)) else aslot s
def aforget (m : AM) (r : Nat) (i j : Int) : AM := m.filter fun q => !(q.1 == r && (decide (i ≤ (q.2.1 : Int)) && decide ((q.2.1 : Int) ≤ j)))
def aunK (r : Nat) (i j : Int) (a : AV) : AV := if 1000 ≤ a.2.2.2.2.2 ∧ a.2.2.2.2.2 / 1000 - 1 = r ∧ i ≤ ((a.2.2.2.2.2 % 1000 : Nat) : Int) ∧ ((a.2.2.2.2.2 % 1000 : Nat) : Int) ≤ j then aun a else a
def awrite (W : AW) (m : AM) (r b : Nat) (v : AV) : AM := if v.1 = 0 ∧ W.2.2.1 r = true then (r, b, v.2.1, v.2.2.1) :: aforget m r b b else aforget m r b b
/-- what a branch has shown of a value, told to where it came from -/
def atell (a : AV) (lo hi : Int) (q : List (Option AV) × AM) : List (Option AV) × AM := if a.2.2.2.2.2 = 0 then q else if a.2.2.2.2.2 < 1000 then (match q.1[a.2.2.2.2.2 - 1]? with
  | some (some w) => if w.1 = 0 then (q.1.set (a.2.2.2.2.2 - 1) (some (0, max lo w.2.1, min hi w.2.2.1, w.2.2.2.1, w.2.2.2.2.1, 0)), q.2) else q
  | _ => q) else (q.1, (a.2.2.2.2.2 / 1000 - 1, a.2.2.2.2.2 % 1000, lo, hi) :: q.2)
/-- a branch: where to, what x and y are then -/
def abr (pc : Nat) (a b : AV) (alo ahi blo bhi : Int) (L : List (Option AV)) (st : List AV) (m : AM) : List AS := if ahi < alo ∨ bhi < blo then [] else
  let q := atell b blo bhi (atell a alo ahi (L, m))
  [(pc, q.1, st, q.2)]
def aeq (pc : Nat) (a b : AV) (L : List (Option AV)) (st : List AV) (m : AM) : List AS := abr pc a b (max a.2.1 b.2.1) (min a.2.2.1 b.2.2.1) (max a.2.1 b.2.1) (min a.2.2.1 b.2.2.1) L st m
/-- not equal: an end that is one number alone falls away -/
def ane (pc : Nat) (a b : AV) (L : List (Option AV)) (st : List AV) (m : AM) : List AS := abr pc a b
  (if b.2.1 = b.2.2.1 ∧ a.2.1 = b.2.1 then a.2.1 + 1 else a.2.1) (if b.2.1 = b.2.2.1 ∧ a.2.2.1 = b.2.1 then a.2.2.1 - 1 else a.2.2.1)
  (if a.2.1 = a.2.2.1 ∧ b.2.1 = a.2.1 then b.2.1 + 1 else b.2.1) (if a.2.1 = a.2.2.1 ∧ b.2.2.1 = a.2.1 then b.2.2.1 - 1 else b.2.2.1) L st m
def alt (pc : Nat) (a b : AV) (L : List (Option AV)) (st : List AV) (m : AM) : List AS := abr pc a b a.2.1 (min a.2.2.1 (b.2.2.1 - 1)) (max b.2.1 (a.2.1 + 1)) b.2.2.1 L st m
def age (pc : Nat) (a b : AV) (L : List (Option AV)) (st : List AV) (m : AM) : List AS := abr pc a b (max a.2.1 b.2.1) a.2.2.1 b.2.1 (min b.2.2.1 a.2.2.1) L st m
def acmp (c : Jvm.ClassFile.Cond) (t f : Nat) (a b : AV) (L : List (Option AV)) (st : List AV) (m : AM) : List AS := match c with
  | .eq => aeq t a b L st m ++ ane f a b L st m
  | .ne => aeq f a b L st m ++ ane t a b L st m
  | .lt => alt t a b L st m ++ age f a b L st m
  | .ge => age t a b L st m ++ alt f a b L st m
  | .gt => alt t b a L st m ++ age f b a L st m
  | .le => age t b a L st m ++ alt f b a L st m
