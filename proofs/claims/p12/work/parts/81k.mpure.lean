/-! how a grant goes in a course: said once for both sides -/
def bset (P : Nat → Bool) : Nat → Int32
  | 0 => Int32.ofInt 0
  | k + 1 => bset P k ||| (if P k = true then Int32.ofInt 1 <<< (nI k &&& 31) else Int32.ofInt 0)
def alv (s : LV) (p y : Nat) : Bool := decide ((s.1 p).toInt ≤ (y : Int) ∧ (y : Int) < (s.2.1 p).toInt)
def ageS (f : Nat → Int32) (s : LV) (p y : Nat) : Int32 := if p < 8 then f (90 + p) + nI y else nI y - s.1 p
def hold (f : Nat → Int32) (s : LV) (k x : Int32) (p y : Nat) : Bool :=
  if k = Int32.ofInt 1 then alv s p y && decide (x ≤ ageS f s p y)
  else if k = Int32.ofInt 2 then decide ((s.2.2.1 p).toInt ≤ (y : Int))
  else if k = Int32.ofInt 3 then decide ((s.2.2.2 x.toNatClampNeg).toInt ≤ (y : Int))
  else true
def kid (f : Nat → Int32) (n m p o : Nat) : Bool := if p < 8 then decide (p < n ∧ f (100 + p) = nI o) else decide (p - 8 < m ∧ f (110 + (p - 8)) = Int32.ofInt 0 ∧ f (116 + (p - 8)) = nI o)
/-- the children alive for whom the if holds -/
def chS (f : Nat → Int32) (n m : Nat) (s : LV) (o : Nat) (k x : Int32) (y : Nat) : Int32 := bset (fun p => kid f n m p o && (alv s p y && hold f s k x p y)) 14
def oldS (f : Nat → Int32) (s : LV) (a b : Nat) : Bool := if a < 8 ∧ b < 8 then decide (f (90 + b) < f (90 + a) ∨ (f (90 + a) = f (90 + b) ∧ a < b)) else if a < 8 ∨ b < 8 then decide (a < 8) else decide (s.1 a < s.1 b ∨ (s.1 a = s.1 b ∧ a < b))
def o2i (o : Option Nat) : Int32 := match o with
  | none => Int32.ofInt (-1)
  | some p => nI p
def eldP (f : Nat → Int32) (s : LV) (k : Nat) (o : Option Nat) : Bool := match o with
  | none => true
  | some b => oldS f s k b
def eldS (f : Nat → Int32) (s : LV) (S : Int32) : Nat → Option Nat
  | 0 => none
  | k + 1 => if lvB S k ∧ eldP f s k (eldS f s S k) = true then some k else eldS f s S k
/-- those that take a clause -/
def tkS (f : Nat → Int32) (n m : Nat) (s : LV) (a y : Nat) : Int32 :=
  if f (a + 2) = 0 then (if (alv s (f (a + 3)).toNatClampNeg y && hold f s (f (a + 6)) (f (a + 7)) (f (a + 3)).toNatClampNeg y) = true then Int32.ofInt 1 <<< (f (a + 3) &&& 31) else Int32.ofInt 0)
  else if chS f n m s (f (a + 3)).toNatClampNeg (f (a + 6)) (f (a + 7)) y = 0 ∨ f (a + 2) = Int32.ofInt 2 then chS f n m s (f (a + 3)).toNatClampNeg (f (a + 6)) (f (a + 7)) y
  else Int32.ofInt 1 <<< (o2i (eldS f s (chS f n m s (f (a + 3)).toNatClampNeg (f (a + 6)) (f (a + 7)) y) 14) &&& 31)
def faS (f : Nat → Int32) (n m : Nat) (s : LV) (a y : Nat) : Bool := !(alv s (f (a + 3)).toNatClampNeg y) && (decide (f (a + 2) = 0) || decide (chS f n m s (f (a + 3)).toNatClampNeg (Int32.ofInt 0) (Int32.ofInt 0) y = 0))
def alS (s : LV) (S : Int32) (y : Nat) : Int32 := bset (fun p => decide (lvB S p) && alv s p y) 14
def enS (f : Nat → Int32) (s : LV) (a : Nat) (bg S : Int32) (y : Nat) : Bool := if f (a + 4) = Int32.ofInt 1 then false else decide (alS s S y = 0) || (decide (f (a + 4) = Int32.ofInt 2) && decide (bg + f (a + 5) ≤ nI y))
def atC (g c : Nat) : Nat := 140 + 8 * (6 * g + c)
def shS (f : Nat → Int32) (s : LV) (g y : Nat) : Nat → Nat → Option Nat
  | 0, _ => none
  | q + 1, c => if f (atC g c) = Int32.ofInt 3 ∧ (s.2.2.2 (f (atC g c + 1)).toNatClampNeg).toInt ≤ (y : Int) then some c else shS f s g y q (c + 1)
def nxS (f : Nat → Int32) (g : Nat) : Nat → Nat → Option Nat
  | 0, _ => none
  | q + 1, c => if f (atC g c) = 0 then some c else nxS f g q (c + 1)
/-- which clause runs, which ran last, whether it has begun, who took, when clauses began -/
abbrev GS := Option Nat × Nat × Bool × Int32 × (Nat → Int32)
def rnS (o : Option Nat) (σ : GS) : GS := (o, o.getD σ.2.1, false, Int32.ofInt 0, σ.2.2.2.2)
/-- a clause's begin -/
def beS (f : Nat → Int32) (n m : Nat) (s : LV) (g y c : Nat) (σ : GS) : GS :=
  if σ.2.2.1 = true then σ else (σ.1, σ.2.1, !decide (tkS f n m s (atC g c) y = 0), tkS f n m s (atC g c) y, if tkS f n m s (atC g c) y = 0 then σ.2.2.2.2 else upd σ.2.2.2.2 c (nI y))
def ovS (f : Nat → Int32) (n m : Nat) (s : LV) (g y c : Nat) (σ : GS) : Bool := if σ.2.2.1 = true then enS f s (atC g c) (σ.2.2.2.2 c) σ.2.2.2.1 y else faS f n m s (atC g c) y
def seS (f : Nat → Int32) (n m : Nat) (s : LV) (g nc y : Nat) : Nat → GS → GS
  | 0, σ => σ
  | k + 1, σ => match σ.1 with
    | none => σ
    | some c => if ovS f n m s g y c (beS f n m s g y c σ) = true then seS f n m s g nc y k (rnS (nxS f g (nc - (c + 1)) (c + 1)) (beS f n m s g y c σ)) else beS f n m s g y c σ
def ysS (f : Nat → Int32) (s : LV) (g nc y : Nat) (σ : GS) : GS := match shS f s g y (nc - (σ.2.1 + 1)) (σ.2.1 + 1) with
  | none => σ
  | some c => rnS (some c) σ
def goY (f : Nat → Int32) (n m : Nat) (s : LV) (g nc : Nat) (b0 : Nat → Int32) : Nat → GS
  | 0 => (some 0, 0, false, Int32.ofInt 0, b0)
  | y + 1 => seS f n m s g nc y 6 (ysS f s g nc y (goY f n m s g nc b0 y))
/-- who has the field in the year, and by which clause -/
def hsS (f : Nat → Int32) (s : LV) (g y : Nat) (σ : GS) : Int32 := match σ.1 with
  | none => Int32.ofInt 0
  | some c => if σ.2.2.1 = true then (if f (atC g c + 4) = Int32.ofInt 1 then σ.2.2.2.1 else alS s σ.2.2.2.1 y) else Int32.ofInt 0
def hcS (σ : GS) : Int32 := match σ.1 with
  | none => m5
  | some c => if σ.2.2.1 = true then nI c else m5
/-! the model's questions of a course -/
theorem XGo.tsd {d : Nat} {M : XMeth} {pc len a b w : Nat} {df lo hi : Int} {offs : Array Int} {x : Int32} {L : XL} {st : List Value} {h h1 : XH} {v : Option Value} (t : Nat) (hm : xfind (xmT M) pc = some (pc, .tableswitch df lo hi offs, len, a, b, w)) (hx : x.toInt < lo ∨ hi < x.toInt) (h0 : 0 ≤ (pc : Int) + df) (ht : ((pc : Int) + df).toNat = t) (k : XGo d M (t, L, st, h) v h1) : XGo d M (pc, L, .int x :: st, h) v h1 := by
  refine XGo.st _ hm (o := (t, L, st)) ?_ k
  simp only [xst]
  rw [if_pos hx, if_pos h0, ht]
theorem XGo.ib {d : Nat} {M : XMeth} {pc : Nat} {L : XL} {h : XH} {b : Bool} {w : Bool} (r : XRow) (hm : xfind (xmT M) pc = some r) (hi : r.2.1 = .ireturn) (hr : xmR M = some .boolean) (e : w = b) : XGo d M (pc, L, [.int (b01 b)], h) (some (.int (b01 w))) h := by
  subst e
  exact XGo.iret r hm hi .boolean hr (nb01 w)
theorem XGo.top {d : Nat} {M : XMeth} {pc : Nat} {x y : Int32} {L : XL} {st : List Value} {h h1 : XH} {v : Option Value} (e : x = y) (k : XGo d M (pc, L, .int y :: st, h) v h1) : XGo d M (pc, L, .int x :: st, h) v h1 := by
  subst e
  exact k
theorem XGo.top2 {d : Nat} {M : XMeth} {pc : Nat} {x y : Int32} {z : Value} {L : XL} {st : List Value} {h h1 : XH} {v : Option Value} (e : x = y) (k : XGo d M (pc, L, z :: .int y :: st, h) v h1) : XGo d M (pc, L, z :: .int x :: st, h) v h1 := by
  subst e
  exact k
theorem dec_t {P : Prop} {i : Decidable P} (h : P) : @decide P i = true := by simp [h]
theorem dec_f {P : Prop} {i : Decidable P} (h : ¬ P) : @decide P i = false := by simp [h]
theorem nIle' {a : Int32} {y : Nat} (hy : y < 2147483648) : a ≤ nI y ↔ a.toInt ≤ (y : Int) := by rw [Int32.le_iff_toInt_le, nI_toInt hy]
theorem nIlt' {a : Int32} {y : Nat} (hy : y < 2147483648) : nI y < a ↔ (y : Int) < a.toInt := by rw [Int32.lt_iff_toInt_lt, nI_toInt hy]
section MQ
variable {h : XH} {fs : List Value} {f : Nat → Int32} {s : LV} {n m : Nat}
theorem lvf7 (hK : LVk h fs f) : xfd h 536 7 7 = some (.ref 542) := (xfd_o hK.2.1 (by rw [hK.1]; decide) (by decide) hK.2.2.2.2.2.2.2).1
theorem lvf1 (hK : LVk h fs f) : xfd h 536 7 1 = some (.ref 537) := (xfd_o hK.2.1 (by rw [hK.1]; decide) (by decide) hK.2.2.2.1).1
theorem row_i (hK : LVk h fs f) {i : Nat} (hi : i < 490) : xia h 0 537 (nI i) = some (f i) := ia_nI hK.2.2.1 (by rw [hK.1]; decide) hi (by decide)
theorem rc7 (hK : LVk h fs f) {M : XMeth} (hM : xmC M = 7) {as : List Value} (ha : as.head? = some (.ref 536)) : xrecv M as h := fun _ => ⟨536, fs, ha, by rw [hM]; exact hK.2.1, by decide, by rw [hK.1]; decide⟩
theorem k_al (d : Nat) (hK : LVk h fs f) (hs : LVr h s) {p y : Nat} (hp : p < 14) (hy : y < 2147483648) : XCall xM (d + 1) 117 [.ref 536, .int (nI p), .int (nI y)] h (some (.int (b01 (alv s p y)))) h := by
  have q := k_alive d hK hs (p := nI p) (y := nI y) (by rw [nI_toInt (by omega)]; omega) (by rw [xnI_nat (by omega)]; exact hp)
  rw [xnI_nat (by omega), nI_toInt hy] at q
  rw [show b01 (alv s p y) = if (s.1 p).toInt ≤ (y : Int) ∧ (y : Int) < (s.2.1 p).toInt then 1 else 0 from ite_congr (propext (by unfold alv; exact decide_eq_true_iff)) (fun _ => rfl) (fun _ => rfl)]
  exact q
theorem k_ag (d : Nat) (hK : LVk h fs f) (hs : LVr h s) {p y : Nat} (hp : p < 14) : XCall xM (d + 1) 118 [.ref 536, .int (nI p), .int (nI y)] h (some (.int (ageS f s p y))) h := by
  have q := k_age d hK hs (p := nI p) (y := nI y) (by rw [nI_toInt (by omega)]; omega) (by rw [xnI_nat (by omega)]; exact hp) (by rw [xnI_nat (by omega)])
  rw [xnI_nat (by omega)] at q
  exact q
set_option maxRecDepth 100000 in
theorem k_holds (d : Nat) (hK : LVk h fs f) (hs : LVr h s) {p y : Nat} {k x : Int32} (hp : p < 14) (hy : y < 2147483648) (hx : k = Int32.ofInt 3 → 0 ≤ x.toInt ∧ x.toInt ≤ 3) : XCall xM (d + 2) 133 [.ref 536, .int k, .int x, .int (nI p), .int (nI y)] h (some (.int (b01 (hold f s k x p y)))) h := by
  have hN := hK.1
  obtain ⟨g4, g5, g6⟩ := lvfld hK
  refine XCall.of (M := xm_X7_holdsFor) rfl (Nat.le_of_ble_eq_true rfl) ?_
  unfold hold
  by_cases e1 : k = Int32.ofInt 1
  · rw [if_pos e1]
    subst e1
    refine XGo.go 5 rfl ?_
    refine XGo.call _ rfl xm_X7_isAlive rfl rfl [.ref 536, .int (nI p), .int (nI y)] [] rfl rfl (rc7 hK rfl rfl) (Nat.le_of_ble_eq_true rfl) (k_al d hK hs hp hy) ?_
    cases ha : alv s p y
    · refine XGo.go 1 rfl ?_
      refine XGo.ifp rfl ?_
      refine XGo.go 1 rfl ?_
      exact XGo.ib (b := false) _ rfl rfl rfl rfl
    · refine XGo.go 1 rfl ?_
      refine XGo.ifn (by decide) ?_
      refine XGo.go 3 rfl ?_
      refine XGo.call _ rfl xm_X7_ageOf rfl rfl [.ref 536, .int (nI p), .int (nI y)] [] rfl rfl (rc7 hK rfl rfl) (Nat.le_of_ble_eq_true rfl) (k_ag d hK hs hp) ?_
      refine XGo.go 2 rfl ?_
      by_cases e : ageS f s p y < x
      · refine XGo.ifp e ?_
        refine XGo.go 1 rfl ?_
        exact XGo.ib (b := false) _ rfl rfl rfl (dec_f (Int32.not_le.mpr e))
      · refine XGo.ifn e ?_
        refine XGo.go 2 rfl ?_
        exact XGo.ib (b := true) _ rfl rfl rfl (dec_t (Int32.not_lt.mp e))
  · rw [if_neg e1]
    by_cases e2 : k = Int32.ofInt 2
    · rw [if_pos e2]
      subst e2
      refine XGo.go 3 rfl ?_
      refine XGo.getf rfl ⟨g6, by decide⟩ ?_
      refine XGo.go 1 rfl ?_
      refine XGo.iald rfl (ia_nI hs.2.2.1 (by omega) hp (by decide)) ?_
      refine XGo.go 2 rfl ?_
      by_cases e : nI y < s.2.2.1 p
      · refine XGo.ifp e ?_
        refine XGo.go 1 rfl ?_
        exact XGo.ib (b := false) _ rfl rfl rfl (dec_f (fun q => absurd ((nIlt' hy).mp e) (by omega)))
      · refine XGo.ifn e ?_
        refine XGo.go 2 rfl ?_
        exact XGo.ib (b := true) _ rfl rfl rfl (dec_t (Int.not_lt.mp fun q => e ((nIlt' hy).mpr q)))
    · rw [if_neg e2]
      by_cases e3 : k = Int32.ofInt 3
      · rw [if_pos e3]
        obtain ⟨x1, x2⟩ := i32_nI (hx e3).1 (hx e3).2
        subst e3
        refine XGo.go 3 rfl ?_
        refine XGo.getf rfl ⟨lvf7 hK, by decide⟩ ?_
        refine XGo.go 1 rfl ?_
        rw [x1, xnI_nat (by omega)]
        refine XGo.iald rfl (ia_nI hs.2.2.2 (by omega) (by omega) (by decide)) ?_
        refine XGo.go 2 rfl ?_
        by_cases e : nI y < s.2.2.2 x.toNatClampNeg
        · refine XGo.ifp e ?_
          refine XGo.go 1 rfl ?_
          exact XGo.ib (b := false) _ rfl rfl rfl (dec_f (fun q => absurd ((nIlt' hy).mp e) (by omega)))
        · refine XGo.ifn e ?_
          refine XGo.go 2 rfl ?_
          exact XGo.ib (b := true) _ rfl rfl rfl (dec_t (Int.not_lt.mp fun q => e ((nIlt' hy).mpr q)))
      · rw [if_neg e3]
        refine XGo.go 1 rfl ?_
        have n1 : ¬ k.toInt = 1 := fun q => e1 (Int32.toInt_inj.mp q)
        have n2 : ¬ k.toInt = 2 := fun q => e2 (Int32.toInt_inj.mp q)
        have n3 : ¬ k.toInt = 3 := fun q => e3 (Int32.toInt_inj.mp q)
        refine XGo.tsd 89 rfl (by omega) (by decide) (by decide) ?_
        refine XGo.go 1 rfl ?_
        exact XGo.ib (b := true) _ rfl rfl rfl rfl
theorem d8 : ∀ p : Fin 14, (nI p.val - (Int8.ofInt 8).toInt32 = nI (p.val - 8) ∨ p.val < 8) ∧ (Int8.ofInt 110).toInt32 + nI p.val - (Int8.ofInt 8).toInt32 = nI (110 + p.val - 8) ∧ (Int8.ofInt 116).toInt32 + nI p.val - (Int8.ofInt 8).toInt32 = nI (116 + p.val - 8) ∧ (Int8.ofInt 100).toInt32 + nI p.val = nI (100 + p.val) ∧ (Int8.ofInt 90).toInt32 + nI p.val = nI (90 + p.val) := by decide +kernel
set_option maxRecDepth 100000 in
theorem k_kid (d : Nat) (hK : LVk h fs f) (h0 : f 0 = nI n) (hn : n ≤ 8) (h1 : f 1 = nI m) (hm : m ≤ 6) {p o : Nat} (hp : p < 14) : XCall xM (d + 1) 134 [.ref 536, .int (nI p), .int (nI o)] h (some (.int (b01 (kid f n m p o)))) h := by
  obtain ⟨q1, q2, q3, q4, -⟩ := d8 ⟨p, hp⟩
  dsimp only at q1 q2 q3 q4
  have r0 : xia h 0 537 (Int32.ofInt 0) = some (nI n) := by rw [← h0]; exact row_i hK (i := 0) (by decide)
  have r1 : xia h 0 537 (Int32.ofInt 1) = some (nI m) := by rw [← h1]; exact row_i hK (i := 1) (by decide)
  refine XCall.of (M := xm_X7_isChild) rfl (Nat.le_of_ble_eq_true rfl) ?_
  unfold kid
  refine XGo.go 3 rfl ?_
  by_cases p8 : p < 8
  · rw [if_pos p8]
    refine XGo.ifn (fun z => absurd ((xnI_ge (m := 8) (by decide) (by omega)).mp z) (by omega)) ?_
    have no : ¬ (p < n ∧ f (100 + p) = nI o) → XGo d xm_X7_isChild (33, [some (.ref 536), some (.int (nI p)), some (.int (nI o))], [], h) (some (.int (b01 (decide (p < n ∧ f (100 + p) = nI o))))) h := fun z => by
      refine XGo.go 1 rfl ?_
      exact XGo.ib (b := false) _ rfl rfl rfl (dec_f z)
    refine XGo.go 2 rfl ?_
    refine XGo.getf rfl ⟨lvf1 hK, by decide⟩ ?_
    refine XGo.go 1 rfl ?_
    refine XGo.iald rfl r0 ?_
    refine XGo.go 1 rfl ?_
    by_cases pn : p < n
    · refine XGo.ifn (fun z => absurd ((nIle (by omega) (by omega)).mp z) (by omega)) ?_
      refine XGo.go 1 rfl ?_
      refine XGo.getf rfl ⟨lvf1 hK, by decide⟩ ?_
      refine XGo.go 3 rfl ?_
      refine XGo.top q4 ?_
      refine XGo.iald rfl (row_i hK (by omega)) ?_
      refine XGo.go 2 rfl ?_
      by_cases e : f (100 + p) = nI o
      · refine XGo.ifp e ?_
        refine XGo.go 2 rfl ?_
        exact XGo.ib (b := true) _ rfl rfl rfl (dec_t ⟨pn, e⟩)
      · exact XGo.ifn e (no fun z => e z.2)
    · exact XGo.ifp ((nIle (by omega) (by omega)).mpr (by omega)) (no fun z => pn z.1)
  · rw [if_neg p8]
    have q1 := q1.resolve_right p8
    refine XGo.ifp ((xnI_ge (m := 8) (by decide) (by omega)).mpr (by omega)) ?_
    have no : ¬ (p - 8 < m ∧ f (110 + (p - 8)) = Int32.ofInt 0 ∧ f (116 + (p - 8)) = nI o) → XGo d xm_X7_isChild (83, [some (.ref 536), some (.int (nI p)), some (.int (nI o))], [], h) (some (.int (b01 (decide (p - 8 < m ∧ f (110 + (p - 8)) = Int32.ofInt 0 ∧ f (116 + (p - 8)) = nI o))))) h := fun z => by
      refine XGo.go 1 rfl ?_
      exact XGo.ib (b := false) _ rfl rfl rfl (dec_f z)
    refine XGo.go 4 rfl ?_
    refine XGo.top2 q1 ?_
    refine XGo.getf rfl ⟨lvf1 hK, by decide⟩ ?_
    refine XGo.go 1 rfl ?_
    refine XGo.iald rfl r1 ?_
    refine XGo.go 1 rfl ?_
    by_cases pn : p - 8 < m
    · refine XGo.ifn (fun z => absurd ((nIle (by omega) (by omega)).mp z) (by omega)) ?_
      refine XGo.go 1 rfl ?_
      refine XGo.getf rfl ⟨lvf1 hK, by decide⟩ ?_
      refine XGo.go 5 rfl ?_
      refine XGo.top q2 ?_
      refine XGo.iald rfl (row_i hK (by omega)) ?_
      rw [show 110 + p - 8 = 110 + (p - 8) by omega]
      refine XGo.go 1 rfl ?_
      by_cases e : f (110 + (p - 8)) = Int32.ofInt 0
      · refine XGo.ifp e ?_
        refine XGo.go 1 rfl ?_
        refine XGo.getf rfl ⟨lvf1 hK, by decide⟩ ?_
        refine XGo.go 5 rfl ?_
        refine XGo.top q3 ?_
        refine XGo.iald rfl (row_i hK (by omega)) ?_
        rw [show 116 + p - 8 = 116 + (p - 8) by omega]
        refine XGo.go 2 rfl ?_
        by_cases e2 : f (116 + (p - 8)) = nI o
        · refine XGo.ifp e2 ?_
          refine XGo.go 2 rfl ?_
          exact XGo.ib (b := true) _ rfl rfl rfl (dec_t ⟨pn, e, e2⟩)
        · exact XGo.ifn e2 (no fun z => e2 z.2.2)
      · exact XGo.ifn e (no fun z => e z.2.1)
    · exact XGo.ifp ((nIle (by omega) (by omega)).mpr (by omega)) (no fun z => pn z.1)
end MQ
