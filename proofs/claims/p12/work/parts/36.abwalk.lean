/-! the walk: from a cut to cuts or returns -/
/-- a cut: its state, a rank: a number and one for each local -/
abbrev ACut : Type := AS × Int × List Int
/-- world, pairs, method, contract, contracts of its calls by place, hints, cuts -/
abbrev APm : Type := AW × (Nat × List APr) × XMeth × ACt × List (Nat × ACt) × List AHi × List ACut
/-- marked anew: a local's number is its own -/
def amk : Nat → List (Option AV) → List (Option AV)
  | _, [] => []
  | i, o :: t => (match o with
    | some a => if a.1 = 0 then some (0, a.2.1, a.2.2.1, i + 1, 0, 0) else some (a.1, 0, 0, a.2.2.2.1, 0, 0)
    | none => none) :: amk (i + 1) t
def aentL : List (Option AV) → List (Option AV) → Bool
  | [], [] => true
  | o :: s, p :: t => (match p with
    | none => (match o with
      | some a => a.1 != 1
      | none => true)
    | some b => (match o with
      | some a => ale a b
      | none => false)) && aentL s t
  | _, _ => false
def acln (a : AV) : Bool := (a.1 != 0 || a.2.2.2.1 == 0) && a.2.2.2.2.2 == 0
def aclnL (A : List (Option AV)) : Bool := A.all fun o => match o with
  | some a => acln a
  | none => true
def avs : List Int → Nat → Int → Option (List Int)
  | [], _, _ => none
  | a :: t, 0, x => some ((a - x) :: t)
  | a :: t, j + 1, x => match avs t j x with
    | some s => some (a :: s)
    | none => none
def arkq : List Int → List (Option AV) → List Int → Int → Option (List Int × Int)
  | [], _, v, k => some (v, k)
  | c :: t, [], v, k => if c = 0 then arkq t [] v k else none
  | c :: t, o :: s, v, k => if c = 0 then arkq t s v k else (match o with
    | some a => if a.1 = 0 then (if 0 < a.2.2.2.1 then (match avs v (a.2.2.2.1 - 1) c with
        | some u => arkq t s u (k - c * a.2.2.2.2.1)
        | none => none) else arkq t s v (k - max (c * a.2.1) (c * a.2.2.1))) else none
    | none => none)
def alow : List Int → List (Option AV) → Int → Option Int
  | [], _, k => some k
  | c :: t, [], k => if c = 0 then alow t [] k else none
  | c :: t, o :: s, k => if c = 0 then alow t s k else (match o with
    | some a => if a.1 = 0 then alow t s (k + min (c * a.2.1) (c * a.2.2.1)) else none
    | none => none)
def arank (R0 : Option (Int × List Int × List (Option AV))) (c : ACut) (A : List (Option AV)) : Bool := match R0 with
  | none => true
  | some (k0, v0, A0) => match arkq c.2.2 A v0 (k0 - c.2.1) with
    | some (v, k) => match alow v A0 k with
      | some z => decide (1 ≤ z)
      | none => false
    | none => false
def acutok (R0 : Option (Int × List Int × List (Option AV))) (q : AX) (c : ACut) : Bool := Nat.beq c.1.1 q.2.1 && (q.1.isEmpty && (aentL q.2.2.1 c.1.2.1 && (alls q.2.2.2.1 c.1.2.2.1 && (c.1.2.2.2.all (ament q.2.2.2.2) && arank R0 c q.2.2.1))))
/-- the local in which argument j stands at first -/
def aslo : List AV → Nat → Nat
  | _, 0 => 0
  | [], j + 1 => j + 1
  | a :: t, j + 1 => (if a.1 = 1 then 2 else 1) + aslo t j
def aalt1 (pre : List AV) (ent : Bool) (x : Option AV) (A : List (Option AV)) (m : AM) (o : AAlt) : Bool := (match o.1 with
  | none => x.isNone
  | some b => (match x with
    | some a => ale a b && (Nat.blt b.2.2.2.2.2 1000 || Nat.beq b.2.2.2.2.2 a.2.2.2.2.2)
    | none => false)) && (o.2.1.all (ament m) && o.2.2.all fun u => ent && ((match pre[u.1]? with
      | some b => b.1 == 0
      | none => false) && match A[aslo pre u.1]? with
      | some (some a) => a.1 == 0 && (a.2.2.2.1 == aslo pre u.1 + 1 && (a.2.2.2.2.1 == 0 && (decide (u.2.1 ≤ a.2.1) && decide (a.2.2.1 ≤ u.2.2))))
      | _ => false))
def aztr (ty : FieldType) (v : AV) : Bool := match ty with
  | .int => true
  | .boolean => decide (0 ≤ v.2.1) && decide (v.2.2.1 ≤ 1)
  | .char => decide (0 ≤ v.2.1) && decide (v.2.2.1 ≤ 65535)
  | .byte => decide (0 = v.2.1) && decide (v.2.2.1 = 0)
  | _ => false
def aret (M : XMeth) (ct : ACt) (ent : Bool) (ins : Instr) (q : AX) : Bool := q.1.isEmpty && (match ins with
  | .ireturn => (match q.2.2.2.1 with
    | [x] => x.1 == 0 && ((match xmR M with
      | some ty => aztr ty x
      | none => false) && ct.1.2.2.1.any (aalt1 ct.1.2.1 ent (some x) q.2.2.1 q.2.2.2.2))
    | _ => false)
  | .lreturn => (match q.2.2.2.1 with
    | [x] => x.1 == 1 && ((match xmR M with
      | some .long => true
      | _ => false) && ct.1.2.2.1.any (aalt1 ct.1.2.1 ent (some x) q.2.2.1 q.2.2.2.2))
    | _ => false)
  | .areturn => (match q.2.2.2.1 with
    | [x] => aisr x.1 && ((match xmR M with
      | some (.object _) => true
      | _ => false) && ct.1.2.2.1.any (aalt1 ct.1.2.1 ent (some x) q.2.2.1 q.2.2.2.2))
    | _ => false)
  | .return_ => (match q.2.2.2.1 with
    | [] => (match xmR M with
      | none => true
      | some _ => false) && ct.1.2.2.1.any (aalt1 ct.1.2.1 ent none q.2.2.1 q.2.2.2.2)
    | _ => false)
  | _ => false)
def aisret (i : Instr) : Bool := match i with
  | .ireturn => true
  | .lreturn => true
  | .areturn => true
  | .return_ => true
  | _ => false
def arow : List XRow → Nat → Option (XRow × List XRow)
  | [], _ => none
  | r :: t, pc => match Nat.beq r.1 pc with
    | true => some (r, t)
    | false => arow t pc
def arow2 (M : XMeth) (T : List XRow) (pc : Nat) : Option (XRow × List XRow) := match T with
  | [] => arow (xmT M) pc
  | r :: t => match Nat.beq r.1 pc with
    | true => some (r, t)
    | false => arow (xmT M) pc
def ahin (W : AW) (P : Nat × List APr) (pc : Nat) : List AHi → List AX → List AX
  | [], l => l
  | x :: t, l => match Nat.beq x.1 pc with
    | true => ahin W P pc t (l.flatMap (asplit W P x))
    | false => ahin W P pc t l
def awalk (p : APm) (R0 : Option (Int × List Int × List (Option AV))) : Nat → Bool → List XRow → AX → Bool
  | 0, _, _, _ => false
  | n + 1, fst, T, q => match !fst && p.2.2.2.2.2.2.any (fun c => Nat.beq c.1.1 q.2.1) with
    | true => p.2.2.2.2.2.2.any (acutok R0 q)
    | false => match arow2 p.2.2.1 T q.2.1 with
      | none => false
      | some (r, t) => match aisret r.2.1 with
        | true => aret p.2.2.1 p.2.2.2.1 R0.isNone r.2.1 q
        | false => (ahin p.1 p.2.1 q.2.1 p.2.2.2.2.2.1 [q]).all fun u => match astep p.1 p.2.1 p.2.2.2.1.1.2.2.2.1 (p.2.2.2.1.1.2.2.2.2 - 1) p.2.2.2.2.1 r u with
          | some l => l.all (awalk p R0 n false t)
          | none => false
/-- the arguments as locals -/
def axarg : List AV → List (Option AV)
  | [] => []
  | a :: t => if a.1 = 1 then some a :: none :: axarg t else some a :: axarg t
def acut0 (p : APm) (n : Nat) (c : ACut) : Bool := c.1.2.1.length == xmL p.2.2.1 && (aclnL c.1.2.1 && (c.1.2.2.1.all acln && ((match alow c.2.2 c.1.2.1 c.2.1 with
  | some z => decide (0 ≤ z)
  | none => false) && awalk p (some (c.2.1, c.2.2, c.1.2.1)) n true [] ([], c.1.1, amk 0 c.1.2.1, c.1.2.2.1, c.1.2.2.2))))
def achk (p : APm) (n : Nat) : Bool := p.2.2.2.2.2.2.all (acut0 p n) && (decide (1 ≤ p.2.2.2.1.1.2.2.2.2) && (decide ((axarg p.2.2.2.1.1.2.1).length ≤ xmL p.2.2.1) &&
  awalk p none n false [] ([], 0, amk 0 (axarg p.2.2.2.1.1.2.1 ++ List.replicate (xmL p.2.2.1 - (axarg p.2.2.2.1.1.2.1).length) none), [], p.2.2.2.1.2.1)))
/-- the check in pieces: the cuts apart -/
def arest (p : APm) (n : Nat) : Bool := decide (1 ≤ p.2.2.2.1.1.2.2.2.2) && (decide ((axarg p.2.2.2.1.1.2.1).length ≤ xmL p.2.2.1) &&
  awalk p none n false [] ([], 0, amk 0 (axarg p.2.2.2.1.1.2.1 ++ List.replicate (xmL p.2.2.1 - (axarg p.2.2.2.1.1.2.1).length) none), [], p.2.2.2.1.2.1))
theorem achk_of {p : APm} {n : Nat} (h1 : p.2.2.2.2.2.2.all (acut0 p n) = true) (h2 : arest p n = true) : achk p n = true := by
  unfold achk
  rw [h1]
  exact h2
theorem aall_a {α : Type} {f : α → Bool} {l1 l2 : List α} (h1 : l1.all f = true) (h2 : l2.all f = true) : (l1 ++ l2).all f = true := by
  rw [List.all_append, h1, h2]
  rfl
