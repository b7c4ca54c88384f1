/-! what the class's learnt courses say, as a predicate of a view of cells -/
abbrev LV := (Nat → Int32) × (Nat → Int32) × (Nat → Int32) × (Nat → Int32)
def i99 : Int32 := (Int8.ofInt 99).toInt32
abbrev c1000 : Int32 := (Int16.ofInt 1000).toInt32
abbrev m5 : Int32 := (Int8.ofInt (-5)).toInt32
def lv0 (n : Nat) : LV := (fun i => if i < n then Int32.ofInt 0 else i99, fun _ => i99, fun _ => i99, fun _ => i99)
/-- a maybe comes -/
def lvC (f : Nat → Int32) (m : Nat) (s : LV) : LV :=
  if f (110 + m) = Int32.ofInt 3 then (s.1, s.2.1, s.2.2.1, upd s.2.2.2 (f (116 + m)).toNatClampNeg (if s.2.2.2 (f (116 + m)).toNatClampNeg = i99 then f (122 + m) else s.2.2.2 (f (116 + m)).toNatClampNeg))
  else if f (122 + m) < s.1 (f (116 + m)).toNatClampNeg ∨ ¬ s.2.1 (f (116 + m)).toNatClampNeg = i99 then s
  else if f (110 + m) = Int32.ofInt 0 then (upd s.1 (8 + m) (f (122 + m)), s.2.1, s.2.2.1, s.2.2.2)
  else if f (110 + m) = Int32.ofInt 1 then (s.1, upd s.2.1 (f (116 + m)).toNatClampNeg (f (122 + m)), s.2.2.1, s.2.2.2)
  else (s.1, s.2.1, upd s.2.2.1 (f (116 + m)).toNatClampNeg (if s.2.2.1 (f (116 + m)).toNatClampNeg = i99 then f (122 + m) else s.2.2.1 (f (116 + m)).toNatClampNeg), s.2.2.2)
abbrev lvB (set : Int32) (k : Nat) : Prop := (set >>> (nI k &&& 31)) &&& Int32.ofInt 1 = Int32.ofInt 1
def lvM (f : Nat → Int32) (set : Int32) (y : Nat) : Nat → LV → LV
  | 0, s => s
  | k + 1, s => if lvB set k ∧ f (122 + k) = nI y then lvC f k (lvM f set y k s) else lvM f set y k s
def lvY (f : Nat → Int32) (set : Int32) (m : Nat) : Nat → LV → LV
  | 0, s => s
  | y + 1, s => lvM f set (y + 1) m (lvY f set m y s)
def lvOf (f : Nat → Int32) (n m : Nat) (set : Int32) : LV := lvY f set m 40 (lv0 n)
def mbOK (f : Nat → Int32) (m : Nat) : Prop := ∀ k, k < m → (0 ≤ (f (116 + k)).toInt ∧ (f (116 + k)).toInt ≤ 13) ∧ (f (110 + k) = Int32.ofInt 3 → (f (116 + k)).toInt ≤ 3)
def yrOK (f : Nat → Int32) (m : Nat) : Prop := ∀ k, k < m → 1 ≤ (f (122 + k)).toInt ∧ (f (122 + k)).toInt ≤ 40
def lvIn (Y : Nat) (x : Int32) : Prop := x = i99 ∨ (0 ≤ x.toInt ∧ x.toInt ≤ (Y : Int))
def flS (dt : Nat → Int32) : Nat → Option (Int32 × Int32)
  | 0 => some (m5, c1000)
  | p + 1 => match flS dt p with
    | none => none
    | some z => if dt p = c1000 then none else if z.1 = m5 ∨ ¬ dt p ≤ z.2 then some (nI p, dt p) else some z
/-- the last to die and the year; none, and never -/
def flR (dt : Nat → Int32) (n : Nat) : Int32 × Int32 := (flS dt n).getD (m5, c1000)
abbrev XV := Nat → Nat → Option Value
/-- i is a child of p that comes in these lives -/
def chB (n m : Nat) (f : Nat → Int32) (L : LV) (p i : Nat) : Prop := (i < n ∧ f (100 + i) = nI p) ∨ (8 ≤ i ∧ i < 8 + m ∧ ¬ L.1 i = i99 ∧ f (110 + (i - 8)) = Int32.ofInt 0 ∧ f (116 + (i - 8)) = nI p)
/-- a course's cells say these lives -/
def LKv (v : XV) (n m : Nat) (f ag : Nat → Int32) (L : LV) (b : Nat) : Prop :=
  (∀ t, t ≤ 40 → ∃ a w d : Int32, v (b + 1) t = some (.int a) ∧ v (b + 2) t = some (.int w) ∧ v (b + 3) t = some (.int d) ∧ (∀ i, i < 14 → (lvB a i ↔ (L.1 i).toInt ≤ (t : Int) ∧ (t : Int) < (L.2.1 i).toInt)) ∧ (∀ i, i < 14 → (lvB w i ↔ (L.2.2.1 i).toInt ≤ (t : Int))) ∧ ∀ i, i < 4 → (lvB d i ↔ (L.2.2.2 i).toInt ≤ (t : Int))) ∧
  (∀ j, j < 14 → v (b + 4) j = some (.int (if j < n then - ag j else if L.1 j = i99 then c1000 else L.1 j))) ∧ (∀ j, j < 14 → v (b + 5) j = some (.int (if L.2.1 j = i99 then c1000 else L.2.1 j))) ∧
  (v b 7 = some (.int (flR (fun j => if L.2.1 j = i99 then c1000 else L.2.1 j) n).1) ∧ v b 8 = some (.int (flR (fun j => if L.2.1 j = i99 then c1000 else L.2.1 j) n).2)) ∧
  (∀ j, j < 14 → lvIn 40 (L.1 j) ∧ lvIn 40 (L.2.1 j) ∧ lvIn 40 (L.2.2.1 j)) ∧
  (∀ t, t ≤ 40 → ∃ a : Int32, v (b + 1) t = some (.int a) ∧ ∀ i, 14 ≤ i → i < 32 → ¬ lvB a i) ∧ ∀ j, j < 14 → ∃ c : Int32, v (b + 6) j = some (.int c) ∧ ∀ i, i < 32 → (lvB c i ↔ chB n m f L j i)
/-- the courses stand where they were made -/
def QS (v : XV) : Prop := ∀ k, k < 64 → v 70 k = some (.ref (88 + 7 * k)) ∧ ∀ j, j < 6 → v (88 + 7 * k) (1 + j) = some (.ref (88 + 7 * k + 1 + j))
/-- the world as the model's row has it -/
def WFv (v : XV) (f ag : Nat → Int32) (n m : Nat) : Prop := (n ≤ 8 ∧ m ≤ 6) ∧ v 14 0 = some (.int (nI n)) ∧ v 14 3 = some (.int (nI m)) ∧ (∀ k, k < m → v 17 k = some (.int (f (110 + k))) ∧ v 18 k = some (.int (f (116 + k))) ∧ v 19 k = some (.int (f (122 + k)))) ∧ (∀ j, j < n → v 15 j = some (.int (ag j)) ∧ v 16 j = some (.int (f (100 + j)))) ∧ mbOK f m ∧ yrOK f m
/-- the world as it must be for a course to be learnt -/
def QW (v : XV) : Prop := ∃ n m : Nat, (n ≤ 8 ∧ m ≤ 6) ∧ v 14 0 = some (.int (nI n)) ∧ v 14 3 = some (.int (nI m)) ∧ (∀ j, j < n → ∃ a : Int32, v 15 j = some (.int a) ∧ 0 ≤ a.toInt ∧ a.toInt ≤ 90) ∧ ∀ k, k < m → ∃ kd w y : Int32, v 17 k = some (.int kd) ∧ v 18 k = some (.int w) ∧ v 19 k = some (.int y) ∧ (0 ≤ w.toInt ∧ w.toInt ≤ 13) ∧ (kd = Int32.ofInt 3 → w.toInt ≤ 3) ∧ 1 ≤ y.toInt ∧ y.toInt ≤ 40
/-- what is learnt is so -/
def QL (v : XV) : Prop := ∀ (n m : Nat) (f ag : Nat → Int32), WFv v f ag n m → ∀ k, k < 64 → v (88 + 7 * k) 0 = some (.int (Int32.ofInt 0)) ∨ LKv v n m f ag (lvOf f n m (nI k)) (88 + 7 * k)
/-- the cells that it reads, by region -/
def rsup (r : Nat) (i j : Int) : Bool := (Nat.beq r 14 && ((decide (i ≤ 0) && decide (0 ≤ j)) || (decide (i ≤ 3) && decide (3 ≤ j)))) || ((Nat.ble 15 r && Nat.ble r 19) || (Nat.beq r 40 || (Nat.ble 58 r && Nat.ble r 64)))
def vw (W : AW) (h : XH) : XV := fun k b => if k < W.2.2.2.1 ∧ rsup (W.1 k) b b = true then rd h k b else none
theorem rsup_mono {r : Nat} {i j : Int} {b : Nat} (h : rsup r b b = true) (h1 : i ≤ (b : Int)) (h2 : (b : Int) ≤ j) : rsup r i j = true := by
  unfold rsup at h ⊢
  simp only [Bool.or_eq_true, Bool.and_eq_true, decide_eq_true_eq] at h ⊢
  rcases h with ⟨h, h3 | h3⟩ | h
  · exact Or.inl ⟨h, Or.inl ⟨by omega, by omega⟩⟩
  · exact Or.inl ⟨h, Or.inr ⟨by omega, by omega⟩⟩
  · exact Or.inr h
theorem vw_fr {W : AW} {ws : AWr} {h h1 : XH} (hf : AFr W ws h h1) (hs : ∀ w ∈ ws, rsup w.1 w.2.1 w.2.2 = false) : vw W h1 = vw W h := by
  funext k b
  unfold vw
  split
  · rename_i hc
    exact hf k b hc.1 fun w hw he => by
      have := rsup_mono hc.2 he.2.1 he.2.2
      rw [← he.1, hs w hw] at this
      cases this
  · rfl
