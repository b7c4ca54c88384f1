/-! THE ABSTRACT WALK: bounds of ints, regions of references (wip/p14/PLAN.md). AV: (t, lo, hi, sym, off, src): t 0 an int from lo to hi (sym = l + 1: equal to what local l was at the last cut, and off; src = l + 1: it is local l's value now; src = 1000 * (r + 1) + b: it is slot b of region r's one place), 1 a long, 2 a reference into region sym, 3 that or null, 4 null -/
abbrev AV : Type := Nat × Int × Int × Nat × Int × Nat
abbrev ASh : Type := Nat × Nat × Nat × List AV × List (Nat × Int × Int)
/-- the places' regions, the regions' shapes, which regions are one place, how many places, how many slots -/
abbrev AW : Type := (Nat → Nat) × (Nat → ASh) × (Nat → Bool) × Nat × Nat
abbrev AM : Type := List (Nat × Nat × Int × Int)
abbrev AS : Type := Nat × List (Option AV) × List AV × AM
def a31 : Int := 2147483648
def avI (lo hi : Int) : AV := (0, lo, hi, 0, 0, 0)
def avT : AV := avI (-2147483648) 2147483647
def avL : AV := (1, 0, 0, 0, 0, 0)
def avR (r : Nat) : AV := (2, 0, 0, r, 0, 0)
/-- bounds, where they hold in 32 bits -/
def acl (lo hi : Int) : AV := if -2147483648 ≤ lo ∧ hi ≤ 2147483647 then avI lo hi else avT
/-- slot b of place k -/
def rd (h : XH) (k b : Nat) : Option Value := match h.2.2 k with
  | .inl o => o.2[b]?
  | .inr (.inl q) => if b < q.2.1 then some (.int (q.2.2 b)) else none
  | .inr (.inr q) => if b < q.2.1 then some (va_rf (q.2.2 b)) else none
def ga (W : AW) (a : AV) (v : Value) : Prop := match a.1 with
  | 0 => ∃ x : Int32, v = .int x ∧ a.2.1 ≤ x.toInt ∧ x.toInt ≤ a.2.2.1
  | 1 => ∃ x : Int64, v = .long x
  | 2 => ∃ k, v = .ref k ∧ W.1 k = a.2.2.2.1 ∧ k < W.2.2.2.1
  | 3 => v = .null ∨ ∃ k, v = .ref k ∧ W.1 k = a.2.2.2.1 ∧ k < W.2.2.2.1
  | 4 => v = .null
  | _ => False
/-- the bounds of what lies from slot i to slot j in a row of ints -/
def sgI : List (Nat × Int × Int) → Int → Int → Option (Int × Int)
  | [], _, _ => none
  | (u, lo, hi) :: t, i, j => if (u : Int) ≤ i then sgI t i j else if j < (u : Int) then some (lo, hi) else match sgI t i j with
    | some (l2, h2) => some (min lo l2, max hi h2)
    | none => none
def shA (s : ASh) (b : Nat) : Option AV := match s.1 with
  | 0 => s.2.2.2.1[b]?
  | 1 => if b < s.2.2.1 then (match sgI s.2.2.2.2 b b with
    | some (lo, hi) => some (avI lo hi)
    | none => none) else none
  | _ => if b < s.2.2.1 then s.2.2.2.1[0]? else none
def shp (s : ASh) (e : XE) : Prop := match s.1, e with
  | 0, .inl o => o.1 = s.2.1 ∧ o.2.length = s.2.2.2.1.length
  | 1, .inr (.inl q) => q.1 = s.2.1 ∧ q.2.1 = s.2.2.1
  | 2, .inr (.inr q) => q.1 = s.2.1 ∧ q.2.1 = s.2.2.1
  | 3, _ => True
  | _, _ => False
def AInv (W : AW) (h : XH) : Prop := h.1 = W.2.2.2.1 ∧ h.2.1 = W.2.2.2.2 ∧ ∀ k, k < W.2.2.2.1 → shp (W.2.1 (W.1 k)) (h.2.2 k) ∧ ∀ b a, shA (W.2.1 (W.1 k)) b = some a → ∃ v, rd h k b = some v ∧ ga W a v
/-- writes: region, from slot, up to slot -/
abbrev AWr : Type := List (Nat × Int × Int)
def AFr (W : AW) (ws : AWr) (h h1 : XH) : Prop := ∀ k b : Nat, k < W.2.2.2.1 → (∀ w ∈ ws, ¬ (w.1 = W.1 k ∧ w.2.1 ≤ (b : Int) ∧ (b : Int) ≤ w.2.2)) → rd h1 k b = rd h k b
theorem AFr.refl (W : AW) (ws : AWr) (h : XH) : AFr W ws h h := fun _ _ _ _ => rfl
theorem AFr.trans {W : AW} {ws : AWr} {h h1 h2 : XH} (a : AFr W ws h h1) (b : AFr W ws h1 h2) : AFr W ws h h2 := fun k j hk hj => (b k j hk hj).trans (a k j hk hj)
theorem AFr.mono {W : AW} {ws ws2 : AWr} {h h1 : XH} (a : AFr W ws h h1) (hs : ∀ w ∈ ws, ∃ u ∈ ws2, u.1 = w.1 ∧ u.2.1 ≤ w.2.1 ∧ w.2.2 ≤ u.2.2) : AFr W ws2 h h1 := fun k j hk hj => a k j hk fun w hw hc => by
  obtain ⟨u, hu, e1, e2, e3⟩ := hs w hw
  exact hj u hu ⟨e1.trans hc.1, Int.le_trans e2 hc.2.1, Int.le_trans hc.2.2 e3⟩
/-- what a value's marks say -/
def gm (W : AW) (E : Nat → Int) (L : XL) (h : XH) (a : AV) (v : Value) : Prop := (a.1 = 0 → 0 < a.2.2.2.1 → ∃ x : Int32, v = .int x ∧ x.toInt = E (a.2.2.2.1 - 1) + a.2.2.2.2.1) ∧
  (0 < a.2.2.2.2.2 → a.2.2.2.2.2 < 1000 → L[a.2.2.2.2.2 - 1]? = some (some v)) ∧ (1000 ≤ a.2.2.2.2.2 → ∀ k, k < W.2.2.2.1 → W.1 k = a.2.2.2.2.2 / 1000 - 1 → rd h k (a.2.2.2.2.2 % 1000) = some v)
def gv (W : AW) (E : Nat → Int) (L : XL) (h : XH) (a : AV) (v : Value) : Prop := ga W a v ∧ gm W E L h a v
def gl (W : AW) (E : Nat → Int) (L : XL) (h : XH) (o : Option AV) (c : Option Value) : Prop := match o with
  | some a => ∃ v, c = some v ∧ gv W E L h a v
  | none => ∀ v, c = some v → v.category ≠ 2
def gst (W : AW) (E : Nat → Int) (L : XL) (h : XH) : List AV → List Value → Prop
  | [], [] => True
  | a :: s, v :: t => gv W E L h a v ∧ gst W E L h s t
  | _, _ => False
def gmem (W : AW) (h : XH) (m : AM) : Prop := ∀ q ∈ m, ∀ k, k < W.2.2.2.1 → W.1 k = q.1 → ∃ x : Int32, rd h k q.2.1 = some (.int x) ∧ q.2.2.1 ≤ x.toInt ∧ x.toInt ≤ q.2.2.2
def gs (W : AW) (E : Nat → Int) (a : AS) (c : XC) : Prop := c.1 = a.1 ∧ c.2.1.length = a.2.1.length ∧ (∀ (i : Nat) (o : Option AV), a.2.1[i]? = some o → ∃ d, c.2.1[i]? = some d ∧ gl W E c.2.1 c.2.2.2 o d) ∧ gst W E c.2.1 c.2.2.2 a.2.2.1 c.2.2.1 ∧ gmem W c.2.2.2 a.2.2.2 ∧ AInv W c.2.2.2
/-! the bounds' own reckoning -/
def aadd (a b : AV) : AV := if a.2.1 + b.2.1 < -2147483648 ∨ 2147483647 < a.2.2.1 + b.2.2.1 then avT else if b.2.1 = b.2.2.1 then (0, a.2.1 + b.2.1, a.2.2.1 + b.2.1, a.2.2.2.1, a.2.2.2.2.1 + b.2.1, 0) else if a.2.1 = a.2.2.1 then (0, a.2.1 + b.2.1, a.2.1 + b.2.2.1, b.2.2.2.1, b.2.2.2.2.1 + a.2.1, 0) else avI (a.2.1 + b.2.1) (a.2.2.1 + b.2.2.1)
def asub (a b : AV) : AV := if a.2.1 - b.2.2.1 < -2147483648 ∨ 2147483647 < a.2.2.1 - b.2.1 then avT else if b.2.1 = b.2.2.1 then (0, a.2.1 - b.2.1, a.2.2.1 - b.2.1, a.2.2.2.1, a.2.2.2.2.1 - b.2.1, 0) else avI (a.2.1 - b.2.2.1) (a.2.2.1 - b.2.1)
def amul (a b : AV) : AV := acl (min (min (a.2.1 * b.2.1) (a.2.1 * b.2.2.1)) (min (a.2.2.1 * b.2.1) (a.2.2.1 * b.2.2.1))) (max (max (a.2.1 * b.2.1) (a.2.1 * b.2.2.1)) (max (a.2.2.1 * b.2.1) (a.2.2.1 * b.2.2.1)))
def aand (a b : AV) : AV := if 0 ≤ a.2.1 then (if 0 ≤ b.2.1 then avI 0 (min a.2.2.1 b.2.2.1) else avI 0 a.2.2.1) else if 0 ≤ b.2.1 then avI 0 b.2.2.1 else avT
def ashl (a b : AV) : AV := if a.2.1 = 1 ∧ a.2.2.1 = 1 ∧ 0 ≤ b.2.1 ∧ b.2.2.1 ≤ 30 then avI (2 ^ b.2.1.toNat) (2 ^ b.2.2.1.toNat) else avT
def adiv (a b : AV) : Option AV := if 0 < b.2.1 then some (if 0 ≤ a.2.1 then avI 0 a.2.2.1 else avT) else none
def arem (a b : AV) : Option AV := if 0 < b.2.1 then some (if 0 ≤ a.2.1 then avI 0 (b.2.2.1 - 1) else avI (-(b.2.2.1 - 1)) (b.2.2.1 - 1)) else none
def aneg (a : AV) : AV := acl (-a.2.2.1) (-a.2.1)
/-- not marked as a local's or a slot's value any more -/
def aun (a : AV) : AV := (a.1, a.2.1, a.2.2.1, a.2.2.2.1, a.2.2.2.2.1, 0)
def aunS (n : Nat) (a : AV) : AV := if a.2.2.2.2.2 = n then aun a else a
