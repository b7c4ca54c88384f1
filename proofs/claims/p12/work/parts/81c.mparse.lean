/-! the model's parser: heaps said as functions -/
def mO (e : Nat → Int32) : List Value := [.int (e 0), .ref 537, .ref 538, .int (e 3), .ref 539, .ref 540, .ref 541, .ref 542, .int (e 8), .int (e 9), .int (e 10), .ref 543, .ref 544, .ref 545, .int (e 14), .int (e 15), .int (e 16), .int (e 17), .ref 546, .ref 547, .ref 548, .int (e 21), .int (e 22), .int (e 23), .int (e 24)]
def MH (h : XH) (e f : Nat → Int32) : XH := (549, 14048, fun j => if j = 536 then .inl (7, mO e) else if j = 537 then .inr (.inl (0, 490, f)) else h.2.2 j)
def ME (e : Nat → Int32) (sp : Nat) (wr : Bool) : Nat → Int32 := fun j => if j = 8 then nI sp else if j = 10 then b01 wr else e j
/-- the model while it reads: its spot, whether it is wrong -/
abbrev MS (h : XH) (e f : Nat → Int32) (sp : Nat) (wr : Bool) : XH := MH h (ME e sp wr) f
section MP
variable {h : XH} {e f tx : Nat → Int32} {sz sp : Nat} {wr : Bool}
theorem MH.ob {e2 : Nat → Int32} : xup (MH h e f) 536 (.inl (7, mO e2)) = MH h e2 f := by
  unfold xup MH
  refine Prod.ext rfl (Prod.ext rfl (funext fun j => ?_))
  dsimp only
  by_cases q : j = 536
  · simp only [if_pos q]
  · simp only [if_neg q]
theorem MH.ro {f2 : Nat → Int32} : xup (MH h e f) 537 (.inr (.inl (0, 490, f2))) = MH h e f2 := by
  unfold xup MH
  refine Prod.ext rfl (Prod.ext rfl (funext fun j => ?_))
  dsimp only
  by_cases q : j = 537
  · subst q
    rfl
  · simp only [if_neg q]
theorem rr536 {M : XMeth} (hM : xmC M = 7) {as : List Value} (ha : as.head? = some (.ref 536)) : xrecv M as (MH h e f) := fun _ => ⟨536, _, ha, by rw [hM]; rfl, by decide, Nat.le_of_ble_eq_true rfl⟩
/-- the text stands in the row -/
def TX (f tx : Nat → Int32) : Prop := ∀ j, j < 80 → f (10 + j) = tx j
set_option maxRecDepth 100000 in
theorem k_here (d : Nat) (ht : TX f tx) (he : e 9 = nI sz) (hsz : sz ≤ 80) (hsp : sp ≤ 80) : XCall xM (d + 1) 121 [.ref 536] (MS h e f sp wr) (some (.int (nxt tx sz sp))) (MS h e f sp wr) := by
  refine XCall.of (M := xm_X7_here) rfl (Nat.le_of_ble_eq_true rfl) ?_
  refine XGo.go 5 rfl ?_
  show XGo _ _ (if e 9 ≤ nI sp then 26 else 11, _, _, _) _ _
  rw [he]
  unfold nxt
  by_cases hp : sp < sz
  · rw [if_pos hp]
    refine XGo.ifn (fun q => absurd ((xnI_ge (by omega) (by omega)).mp q) (by omega)) ?_
    refine XGo.go 6 rfl ?_
    show XGo _ _ (22, _, [.int ((Int8.ofInt 10).toInt32 + nI sp), .ref 537], _) _ _
    rw [show (Int8.ofInt 10).toInt32 + nI sp = nI (10 + sp) from nI_add 10 sp]
    refine XGo.iald rfl (xia_i (n := 490) (f := f) rfl (Nat.le_of_ble_eq_true rfl) (ca_nI (by omega) (by decide))) ?_
    rw [xnI_nat (by omega), ht sp (by omega)]
    refine XGo.go 1 rfl ?_
    exact XGo.iret _ rfl rfl .int rfl rfl
  · rw [if_neg hp]
    refine XGo.ifp ((xnI_ge (by omega) (by omega)).mpr (by omega)) ?_
    refine XGo.go 1 rfl ?_
    exact XGo.iret _ rfl rfl .int rfl rfl
/-- a step of the model that goes as the class's went -/
abbrev MR (h : XH) (e f : Nat → Int32) (r : Bool × PS) : XH := MS h e f r.2.1 (!r.1)
theorem me10 : ME e sp wr 10 = b01 wr := rfl
theorem me8 : ME e sp wr 8 = nI sp := rfl
theorem b01_ne (b : Bool) : b01 b = 0 ↔ b = false := by cases b <;> decide
/-- 1 added to the spot, or 0 -/
theorem sp_add {b : Bool} {x : Int32} (h : x = if b = true then 1 else 0) : nI sp + x = nI (if b = true then sp + 1 else sp) := by
  cases b
  · rw [h]
    exact Int32.add_zero _
  · rw [h]
    exact nI_1 sp
theorem mO_10 {wr2 : Bool} : (mO (ME e sp wr)).set 10 (.int (b01 wr2)) = mO (ME e sp wr2) := rfl
theorem mO_8 {sp2 : Nat} : (mO (ME e sp wr)).set 8 (.int (nI sp2)) = mO (ME e sp2 wr) := rfl
set_option maxRecDepth 100000 in
/-- the rows that end must: the spot goes on where nothing is wrong -/
theorem must_end (d : Nat) {ch : Int32} : XGo (d + 1) xm_X7_must (24, [some (.ref 536), some (.int ch)], [], MS h e f sp wr) none (MS h e f (if wr = true then sp else sp + 1) wr) := by
  refine XGo.go 6 rfl ?_
  show XGo _ _ (if b01 wr = 0 then 40 else 36, [some (.ref 536), some (.int ch)], [.int (nI sp), .ref 536], _) _ _
  have fin : ∀ sp2 : Nat, XGo (d + 1) xm_X7_must (45, [some (.ref 536), some (.int ch)], [], xup (MS h e f sp wr) 536 (.inl (7, (mO (ME e sp wr)).set 8 (.int (nI sp2))))) none (MS h e f sp2 wr) := fun sp2 => by
    rw [mO_8, MH.ob]
    exact XGo.vret _ rfl rfl rfl
  cases wr
  · refine XGo.ifp rfl ?_
    refine XGo.go 2 rfl ?_
    refine XGo.putf rfl (rfl : (MS h e f sp false).2.2 536 = _) (Nat.le_of_ble_eq_true rfl) (by decide) (Nat.le_of_ble_eq_true rfl) rfl rfl ?_
    show XGo _ _ (45, _, [], xup (MS h e f sp false) 536 (.inl (7, (mO (ME e sp false)).set 8 (.int (nI sp + Int32.ofInt 1))))) _ _
    rw [show nI sp + Int32.ofInt 1 = nI (sp + 1) from nI_1 sp]
    exact fin (sp + 1)
  · refine XGo.ifn (by decide) ?_
    refine XGo.go 3 rfl ?_
    refine XGo.putf rfl (rfl : (MS h e f sp true).2.2 536 = _) (Nat.le_of_ble_eq_true rfl) (by decide) (Nat.le_of_ble_eq_true rfl) rfl rfl ?_
    show XGo _ _ (45, _, [], xup (MS h e f sp true) 536 (.inl (7, (mO (ME e sp true)).set 8 (.int (nI sp + Int32.ofInt 0))))) _ _
    rw [show nI sp + Int32.ofInt 0 = nI sp from Int32.add_zero _]
    exact fin sp
/-- isWrong is put -/
theorem must_put (d : Nat) {ch : Int32} (wr2 : Bool) {v : Option Value} {hend : XH} (g : XGo (d + 1) xm_X7_must (24, [some (.ref 536), some (.int ch)], [], MS h e f sp wr2) v hend) : XGo (d + 1) xm_X7_must (21, [some (.ref 536), some (.int ch)], [.int (b01 wr2), .ref 536], MS h e f sp wr) v hend := by
  refine XGo.putf rfl (rfl : (MS h e f sp wr).2.2 536 = _) (Nat.le_of_ble_eq_true rfl) (by decide) (Nat.le_of_ble_eq_true rfl) (by cases wr2 <;> rfl) (by cases wr2 <;> rfl) ?_
  rw [mO_10, MH.ob]
  exact g
set_option maxRecDepth 100000 in
theorem k_must1 (d : Nat) {ch : Int32} : XCall xM (d + 2) 122 [.ref 536, .int ch] (MS h e f sp true) none (MS h e f sp true) := by
  refine XCall.of (M := xm_X7_must) rfl (Nat.le_of_ble_eq_true rfl) ?_
  refine XGo.go 4 rfl ?_
  refine XGo.ifn (show ¬ b01 true = 0 by decide) ?_
  refine XGo.go 2 rfl ?_
  exact must_put d true (must_end (wr := true) d)
set_option maxRecDepth 100000 in
theorem k_must0 (d : Nat) (ht : TX f tx) (he : e 9 = nI sz) (hsz : sz ≤ 80) {s : PS} (hs : s.1 ≤ sz) {ch : Int32} : XCall xM (d + 2) 122 [.ref 536, .int ch] (MS h e f s.1 false) none (MR h e f (cTake tx sz ch s)) := by
  refine XCall.of (M := xm_X7_must) rfl (Nat.le_of_ble_eq_true rfl) ?_
  refine XGo.go 4 rfl ?_
  refine XGo.ifp (show b01 false = 0 by decide) ?_
  refine XGo.go 1 rfl ?_
  refine XGo.call _ rfl xm_X7_here rfl rfl [.ref 536] [.ref 536] rfl rfl (rr536 rfl rfl) (Nat.le_of_ble_eq_true rfl) (k_here d ht he hsz (by omega)) ?_
  refine XGo.go 2 rfl ?_
  unfold cTake
  by_cases q : nxt tx sz s.1 = ch
  · rw [if_pos q, if_pos q]
    refine XGo.go 1 rfl ?_
    exact must_put d false (must_end (wr := false) d)
  · rw [if_neg q, if_neg q]
    refine XGo.go 2 rfl ?_
    exact must_put d true (must_end (wr := true) d)
end MP
/-! the model's parser: figures -/
section MP
variable {h : XH} {e f tx : Nat → Int32} {sz sp : Nat} {wr : Bool}
theorem XGo.pwr {d : Nat} {M : XMeth} {pc idx len w : Nat} {L : XL} {st : List Value} {v : Option Value} {hend : XH} (hm : xfind (xmT M) pc = some (pc, .putfield idx, len, 7, 10, w)) (wr2 : Bool) (g : XGo d M (pc + 3, L, st, MS h e f sp wr2) v hend) : XGo d M (pc, L, .int (b01 wr2) :: .ref 536 :: st, MS h e f sp wr) v hend := by
  refine XGo.putf hm (rfl : (MS h e f sp wr).2.2 536 = _) (Nat.le_of_ble_eq_true rfl) (by decide) (Nat.le_of_ble_eq_true rfl) (by cases wr2 <;> rfl) (by cases wr2 <;> rfl) ?_
  rw [mO_10, MH.ob]
  exact g
theorem XGo.psp {d : Nat} {M : XMeth} {pc idx len w : Nat} {L : XL} {st : List Value} {v : Option Value} {hend : XH} (hm : xfind (xmT M) pc = some (pc, .putfield idx, len, 7, 8, w)) (sp2 : Nat) (g : XGo d M (pc + 3, L, st, MS h e f sp2 wr) v hend) : XGo d M (pc, L, .int (nI sp2) :: .ref 536 :: st, MS h e f sp wr) v hend := by
  refine XGo.putf hm (rfl : (MS h e f sp wr).2.2 536 = _) (Nat.le_of_ble_eq_true rfl) (by decide) (Nat.le_of_ble_eq_true rfl) rfl rfl ?_
  rw [mO_8, MH.ob]
  exact g
theorem XGo.pfs {d : Nat} {M : XMeth} {pc len a b w i : Nat} {x : Int32} {L : XL} {st : List Value} {v : Option Value} {hend : XH} (hm : xfind (xmT M) pc = some (pc, .iastore, len, a, b, w)) (hi : i < 490) (g : XGo d M (pc + 1, L, st, MS h e (upd f i x) sp wr) v hend) : XGo d M (pc, L, .int x :: .int (nI i) :: .ref 537 :: st, MS h e f sp wr) v hend := by
  refine XGo.iast hm (rfl : (MS h e f sp wr).2.2 537 = _) (Nat.le_of_ble_eq_true rfl) (by decide) (ca_nI hi (by decide)) ?_
  rw [xnI_nat (by omega), MH.ro]
  exact g
abbrev c48 : Int32 := (Int8.ofInt 48).toInt32
theorem c48_int : c48.toInt = 48 := by decide
/-- a digit's bounds, both ways -/
theorem dig_in {z hi : Int32} (h0 : 0 ≤ hi.toInt) (h9 : hi.toInt ≤ 9) : (c48.toInt ≤ z.toInt ∧ z.toInt ≤ (c48 + hi).toInt) ↔ ¬ (z - c48 < 0 ∨ hi < z - c48) := by
  have e1 : (c48 + hi).toInt = 48 + hi.toInt := by rw [i32_add (by rw [c48_int]; omega) (by rw [c48_int]; omega), c48_int]
  have e2 : (z - c48).toInt = if z.toInt < -2147483600 then z.toInt - 48 + 4294967296 else z.toInt - 48 := by
    have hlo := i32_lo z
    have hhi := i32_hi z
    rw [Int32.toInt_sub, c48_int]
    show (if (z.toInt - 48) % 4294967296 < (4294967296 + 1) / 2 then (z.toInt - 48) % 4294967296 else (z.toInt - 48) % 4294967296 - 4294967296) = _
    split <;> split <;> omega
  have hlo := i32_lo z
  have hhi := i32_hi z
  rw [e1, c48_int, lt0_iff, Int32.lt_iff_toInt_lt, e2]
  split <;> omega
theorem dgt_neg {hi : Int32} : dgt tx sz sp hi < 0 ↔ nxt tx sz sp - c48 < 0 ∨ hi < nxt tx sz sp - c48 := by
  unfold dgt
  by_cases q : nxt tx sz sp - (Int8.ofInt 48).toInt32 < 0 ∨ hi < nxt tx sz sp - (Int8.ofInt 48).toInt32
  · rw [if_pos q]
    exact ⟨fun _ => q, fun _ => by decide⟩
  · rw [if_neg q]
    exact ⟨fun z => Or.inl z, fun z => absurd z q⟩
abbrev fgL (hi v : Int32) : XL := [some (.ref 536), some (.int hi), some (.int v)]
set_option maxRecDepth 100000 in
theorem fig_end (d : Nat) {hi v : Int32} : XGo (d + 1) xm_X7_figure (51, fgL hi v, [], MS h e f sp wr) (some (.int v)) (MS h e f (if wr = true then sp else sp + 1) wr) := by
  refine XGo.go 6 rfl ?_
  show XGo _ _ (if b01 wr = 0 then 67 else 63, fgL hi v, [.int (nI sp), .ref 536], _) _ _
  cases wr
  · refine XGo.ifp rfl ?_
    refine XGo.go 2 rfl ?_
    show XGo _ _ (69, _, [.int (nI sp + Int32.ofInt 1), .ref 536], _) _ _
    rw [show nI sp + Int32.ofInt 1 = nI (sp + 1) from nI_1 sp]
    refine XGo.psp rfl (sp + 1) ?_
    refine XGo.go 1 rfl ?_
    exact XGo.iret _ rfl rfl .int rfl rfl
  · refine XGo.ifn (by decide) ?_
    refine XGo.go 3 rfl ?_
    show XGo _ _ (69, _, [.int (nI sp + Int32.ofInt 0), .ref 536], _) _ _
    rw [show nI sp + Int32.ofInt 0 = nI sp from Int32.add_zero _]
    refine XGo.psp rfl sp ?_
    refine XGo.go 1 rfl ?_
    exact XGo.iret _ rfl rfl .int rfl rfl
set_option maxRecDepth 100000 in
theorem k_figure1 (d : Nat) {hi : Int32} : XCall xM (d + 2) 125 [.ref 536, .int hi] (MS h e f sp true) (some (.int (Int32.ofInt 0))) (MS h e f sp true) := by
  refine XCall.of (M := xm_X7_figure) rfl (Nat.le_of_ble_eq_true rfl) ?_
  refine XGo.go 4 rfl ?_
  refine XGo.ifn (show ¬ b01 true = 0 by decide) ?_
  refine XGo.go 2 rfl ?_
  refine XGo.pwr rfl true ?_
  refine XGo.go 3 rfl ?_
  refine XGo.ifn (show ¬ b01 true = 0 by decide) ?_
  refine XGo.go 3 rfl ?_
  exact fig_end (wr := true) d
set_option maxRecDepth 100000 in
theorem k_figure0 (d : Nat) (ht : TX f tx) (he : e 9 = nI sz) (hsz : sz ≤ 80) (hs : sp ≤ sz) {hi : Int32} (h0 : 0 ≤ hi.toInt) (h9 : hi.toInt ≤ 9) : ∃ v : Int32, XCall xM (d + 2) 125 [.ref 536, .int hi] (MS h e f sp false) (some (.int v)) (MS h e f (dgp tx sz sp hi) (decide (dgt tx sz sp hi < 0))) ∧ (¬ dgt tx sz sp hi < 0 → v = dgt tx sz sp hi) := by
  have key : ∀ {v : Option Value} {hend : XH}, XGo (d + 1) xm_X7_figure (21, [some (.ref 536), some (.int hi), none], [.int (if c48.toInt ≤ (nxt tx sz sp).toInt ∧ (nxt tx sz sp).toInt ≤ (c48 + hi).toInt then 1 else 0), .ref 536], MS h e f sp false) v hend → XCall xM (d + 2) 125 [.ref 536, .int hi] (MS h e f sp false) v hend := fun g => by
    refine XCall.of (M := xm_X7_figure) rfl (Nat.le_of_ble_eq_true rfl) ?_
    refine XGo.go 4 rfl ?_
    refine XGo.ifp (show b01 false = 0 by decide) ?_
    refine XGo.go 1 rfl ?_
    refine XGo.call _ rfl xm_X7_here rfl rfl [.ref 536] [.ref 536] rfl rfl (rr536 rfl rfl) (Nat.le_of_ble_eq_true rfl) (k_here d ht he hsz (by omega)) ?_
    refine XGo.go 4 rfl ?_
    exact XGo.call _ rfl xm_X7_in rfl rfl [.int (nxt tx sz sp), .int c48, .int (c48 + hi)] [.ref 536] rfl rfl (fun z => absurd rfl z) (Nat.le_of_ble_eq_true rfl) (k_inI d _ _ _ _) g
  by_cases q : c48.toInt ≤ (nxt tx sz sp).toInt ∧ (nxt tx sz sp).toInt ≤ (c48 + hi).toInt
  · have q2 := (dig_in h0 h9).mp q
    have q3 : ¬ dgt tx sz sp hi < 0 := fun z => q2 (dgt_neg.mp z)
    have e1 : dgt tx sz sp hi = nxt tx sz sp - c48 := if_neg q2
    have e2 : dgp tx sz sp hi = sp + 1 := if_neg q2
    refine ⟨dgt tx sz sp hi, key ?_, fun _ => rfl⟩
    rw [if_pos q, decide_eq_false q3, e1, e2]
    refine XGo.go 1 rfl ?_
    refine XGo.ifn (by decide) ?_
    refine XGo.go 1 rfl ?_
    refine XGo.pwr rfl false ?_
    refine XGo.go 3 rfl ?_
    refine XGo.ifp (show b01 false = 0 by decide) ?_
    refine XGo.go 1 rfl ?_
    refine XGo.call _ rfl xm_X7_here rfl rfl [.ref 536] [] rfl rfl (rr536 rfl rfl) (Nat.le_of_ble_eq_true rfl) (k_here d ht he hsz (by omega)) ?_
    refine XGo.go 3 rfl ?_
    exact fig_end (wr := false) d
  · have q2 : nxt tx sz sp - c48 < 0 ∨ hi < nxt tx sz sp - c48 := Classical.byContradiction fun z => q ((dig_in h0 h9).mpr z)
    have q3 : dgt tx sz sp hi < 0 := dgt_neg.mpr q2
    have e2 : dgp tx sz sp hi = sp := if_pos q2
    refine ⟨Int32.ofInt 0, key ?_, fun z => absurd q3 z⟩
    rw [if_neg q, decide_eq_true q3, e2]
    refine XGo.go 1 rfl ?_
    refine XGo.ifp rfl ?_
    refine XGo.go 2 rfl ?_
    refine XGo.pwr rfl true ?_
    refine XGo.go 3 rfl ?_
    refine XGo.ifn (show ¬ b01 true = 0 by decide) ?_
    refine XGo.go 3 rfl ?_
    exact fig_end (wr := true) d
end MP
/-! the model's parser: numbers, words -/
section MP
variable {h : XH} {e f tx : Nat → Int32} {sz sp : Nat} {wr : Bool}
abbrev h9 : Int32 := (Int8.ofInt 9).toInt32
theorem h9_int : h9.toInt = 9 := by decide
theorem c57 : (Int8.ofInt 57).toInt32 = c48 + h9 := by decide
abbrev fsL (v k : Int32) : XL := [some (.ref 536), some (.int v), some (.int k)]
/-- a digit is there or not -/
theorem k_dig (d : Nat) {M : XMeth} {pc1 pc2 : Nat} {L : XL} {st : List Value} {r1 r2 : XRow} (ht : TX f tx) (he : e 9 = nI sz) (hsz : sz ≤ 80) (hs : sp ≤ sz) (hcat : (st.map fun v => v.category).sum ≤ 7) (m1 : xfind (xmT M) pc1 = some r1) (i1 : r1.2.2.2.1 = 121 ∧ xinv r1.2.1 1 = true) (g1 : ysteps (xmT M) 2 (pc1 + 3, L, .int (nxt tx sz sp) :: st, MS h e f sp wr) = some (pc2, L, .int (Int8.ofInt 57).toInt32 :: .int c48 :: .int (nxt tx sz sp) :: st, MS h e f sp wr)) (m2 : xfind (xmT M) pc2 = some r2) (i2 : r2.2.2.2.1 = 107 ∧ xinv r2.2.1 0 = true) {v : Option Value} {hend : XH} (g : XGo (d + 1) M (pc2 + 3, L, .int (if dgt tx sz sp h9 < 0 then 0 else 1) :: st, MS h e f sp wr) v hend) : XGo (d + 1) M (pc1, L, .ref 536 :: st, MS h e f sp wr) v hend := by
  refine XGo.call (v1 := some (.int (nxt tx sz sp))) (h2 := MS h e f sp wr) r1 m1 xm_X7_here (by rw [i1.1]; rfl) i1.2 [.ref 536] st rfl rfl (rr536 rfl rfl) (by omega) (by rw [i1.1]; exact k_here d ht he hsz (by omega)) ?_
  refine XGo.go 2 g1 ?_
  have q := k_inI d (MS h e f sp wr) (nxt tx sz sp) c48 (c48 + h9)
  rw [← c57] at q
  refine XGo.call (v1 := some (.int (if dgt tx sz sp h9 < 0 then 0 else 1))) (h2 := MS h e f sp wr) r2 m2 xm_X7_in (by rw [i2.1]; rfl) i2.2 [.int (nxt tx sz sp), .int c48, .int (Int8.ofInt 57).toInt32] st rfl rfl (fun z => absurd rfl z) (by omega) ?_ g
  rw [i2.1]
  by_cases z : dgt tx sz sp h9 < 0
  · rw [if_pos z]
    rw [if_neg (by rw [c57]; exact fun w => (dig_in (by decide) (by decide)).mp w (dgt_neg.mp z))] at q
    exact q
  · rw [if_neg z]
    rw [if_pos (by rw [c57]; exact (dig_in (by decide) (by decide)).mpr fun w => z (dgt_neg.mpr w))] at q
    exact q
theorem two_pos : ∀ a b : Fin 10, ¬ nI a.val * (Int8.ofInt 10).toInt32 + nI b.val < 0 := by decide +kernel
theorem figs_out (d : Nat) {v k : Int32} : XGo d xm_X7_figures (97, fsL v k, [], MS h e f sp wr) (some (.int v)) (MS h e f sp wr) := by
  refine XGo.go 1 rfl ?_
  exact XGo.iret _ rfl rfl .int rfl rfl
theorem ten_mul (v x : Int32) : (Int8.ofInt 10).toInt32 * v + x - c48 = v * (Int8.ofInt 10).toInt32 + (x - c48) := by
  rw [Int32.mul_comm, Int32.sub_eq_add_neg, Int32.sub_eq_add_neg, Int32.add_assoc]
set_option maxRecDepth 100000 in
/-- the loop's body, where a digit is -/
theorem figs_body (d : Nat) (ht : TX f tx) (he : e 9 = nI sz) (hsz : sz ≤ 80) (hs : sp ≤ sz) {v k : Int32} {w : Option Value} {hend : XH} (g : XGo (d + 1) xm_X7_figures (34, fsL ((Int8.ofInt 10).toInt32 * v + nxt tx sz sp - c48) (k + Int32.ofInt 1), [], MS h e f (sp + 1) false) w hend) : XGo (d + 1) xm_X7_figures (68, fsL v k, [], MS h e f sp false) w hend := by
  refine XGo.go 4 rfl ?_
  refine XGo.call _ rfl xm_X7_here rfl rfl [.ref 536] [.int ((Int8.ofInt 10).toInt32 * v)] rfl rfl (rr536 rfl rfl) (Nat.le_of_ble_eq_true rfl) (k_here d ht he hsz (by omega)) ?_
  refine XGo.go 9 rfl ?_
  show XGo _ _ (88, _, [.int (nI sp + Int32.ofInt 1), .ref 536], _) _ _
  rw [show nI sp + Int32.ofInt 1 = nI (sp + 1) from nI_1 sp]
  refine XGo.psp rfl (sp + 1) ?_
  refine XGo.go 2 rfl ?_
  exact g
set_option maxRecDepth 100000 in
theorem k_figures (d : Nat) (ht : TX f tx) (he : e 9 = nI sz) (hsz : sz ≤ 80) (hs : sp ≤ sz) : ∃ v : Int32, XCall xM (d + 2) 124 [.ref 536] (MS h e f sp false) (some (.int v)) (MS h e f (nmp tx sz sp) (decide (nmv tx sz sp < 0))) ∧ (¬ nmv tx sz sp < 0 → v = nmv tx sz sp) := by
  have key : ∀ {v : Option Value} {hend : XH}, XGo (d + 1) xm_X7_figures (34, fsL (Int32.ofInt 0) (Int32.ofInt 0), [], MS h e f sp (decide (dgt tx sz sp h9 < 0))) v hend → XCall xM (d + 2) 124 [.ref 536] (MS h e f sp false) v hend := fun g => by
    refine XCall.of (M := xm_X7_figures) rfl (Nat.le_of_ble_eq_true rfl) ?_
    refine XGo.go 4 rfl ?_
    refine XGo.ifp (show b01 false = 0 by decide) ?_
    refine XGo.go 1 rfl ?_
    refine k_dig d ht he hsz hs (Nat.le_of_ble_eq_true rfl) rfl ⟨rfl, rfl⟩ rfl rfl ⟨rfl, rfl⟩ ?_
    by_cases z : dgt tx sz sp h9 < 0
    · rw [if_pos z]
      rw [decide_eq_true z] at g
      refine XGo.go 1 rfl ?_
      refine XGo.ifp rfl ?_
      refine XGo.go 2 rfl ?_
      refine XGo.pwr rfl true ?_
      exact XGo.go 4 rfl g
    · rw [if_neg z]
      rw [decide_eq_false z] at g
      refine XGo.go 1 rfl ?_
      refine XGo.ifn (by decide) ?_
      refine XGo.go 1 rfl ?_
      refine XGo.pwr rfl false ?_
      exact XGo.go 4 rfl g
  by_cases z : dgt tx sz sp h9 < 0
  · have n0 : ¬ 0 < dgt tx sz sp h9 := fun w => by
      have a := Int32.lt_iff_toInt_lt.mp w
      have b := lt0_iff.mp z
      rw [z0_int] at a
      omega
    have e1 : nmv tx sz sp = dgt tx sz sp h9 := if_neg n0
    have e2 : nmp tx sz sp = dgp tx sz sp h9 := if_neg n0
    have e3 : dgp tx sz sp h9 = sp := if_pos (dgt_neg.mp z)
    refine ⟨Int32.ofInt 0, key ?_, fun w => absurd (by rw [e1]; exact z) w⟩
    rw [decide_eq_true z, e1, decide_eq_true z, e2, e3]
    refine XGo.go 3 rfl ?_
    refine XGo.ifn (by decide) ?_
    refine XGo.go 3 rfl ?_
    refine XGo.ifn (show ¬ b01 true = 0 by decide) ?_
    exact figs_out _
  · have q3 : ¬ (nxt tx sz sp - c48 < 0 ∨ h9 < nxt tx sz sp - c48) := fun w => z (dgt_neg.mpr w)
    have ea : dgt tx sz sp h9 = nxt tx sz sp - c48 := if_neg q3
    have ep : dgp tx sz sp h9 = sp + 1 := if_neg q3
    have lp : sp + 1 ≤ sz := by rw [← ep]; exact dgp_le hs
    have e10 : (Int8.ofInt 10).toInt32 * Int32.ofInt 0 + nxt tx sz sp - c48 = dgt tx sz sp h9 := by
      rw [ten_mul, ea, show Int32.ofInt 0 * (Int8.ofInt 10).toInt32 = 0 by decide, Int32.zero_add]
    have key2 : ∀ {v : Option Value} {hend : XH}, XGo (d + 1) xm_X7_figures (57, fsL (dgt tx sz sp h9) (Int32.ofInt 1), [.int (if dgt tx sz (sp + 1) h9 < 0 then 0 else 1)], MS h e f (sp + 1) false) v hend → XCall xM (d + 2) 124 [.ref 536] (MS h e f sp false) v hend := fun g => by
      refine key ?_
      rw [decide_eq_false z]
      refine XGo.go 3 rfl ?_
      refine XGo.ifn (by decide) ?_
      refine XGo.go 3 rfl ?_
      refine XGo.ifp (show b01 false = 0 by decide) ?_
      refine XGo.go 1 rfl ?_
      refine k_dig d ht he hsz hs (Nat.le_of_ble_eq_true rfl) rfl ⟨rfl, rfl⟩ rfl rfl ⟨rfl, rfl⟩ ?_
      rw [if_neg z]
      refine XGo.go 1 rfl ?_
      refine XGo.ifn (by decide) ?_
      refine XGo.go 2 rfl ?_
      refine XGo.ifp rfl ?_
      refine figs_body d ht he hsz hs ?_
      rw [e10, show Int32.ofInt 0 + Int32.ofInt 1 = Int32.ofInt 1 by decide]
      refine XGo.go 3 rfl ?_
      refine XGo.ifn (by decide) ?_
      refine XGo.go 3 rfl ?_
      refine XGo.ifp (show b01 false = 0 by decide) ?_
      refine XGo.go 1 rfl ?_
      exact k_dig d ht he hsz lp (Nat.le_of_ble_eq_true rfl) rfl ⟨rfl, rfl⟩ rfl rfl ⟨rfl, rfl⟩ g
    have ha0 : 0 ≤ (dgt tx sz sp h9).toInt := Int.not_lt.mp fun w => z (lt0_iff.mpr w)
    by_cases a0 : 0 < dgt tx sz sp h9
    · by_cases zb : dgt tx sz (sp + 1) h9 < 0
      · have e1 : nmv tx sz sp = dgt tx sz sp h9 := by
          show (if 0 < dgt tx sz sp h9 then _ else _) = _
          rw [if_pos a0, ep, if_pos zb]
        have e2 : nmp tx sz sp = sp + 1 := by
          show (if 0 < dgt tx sz sp h9 then _ else _) = _
          rw [if_pos a0, ep]
          exact if_pos (dgt_neg.mp zb)
        refine ⟨_, key2 ?_, fun _ => rfl⟩
        rw [if_pos zb, e1, e2, decide_eq_false z]
        refine XGo.go 1 rfl ?_
        refine XGo.ifp rfl ?_
        exact figs_out _
      · have qb : ¬ (nxt tx sz (sp + 1) - c48 < 0 ∨ h9 < nxt tx sz (sp + 1) - c48) := fun w => zb (dgt_neg.mpr w)
        have eb : dgt tx sz (sp + 1) h9 = nxt tx sz (sp + 1) - c48 := if_neg qb
        have e1 : nmv tx sz sp = dgt tx sz sp h9 * (Int8.ofInt 10).toInt32 + dgt tx sz (sp + 1) h9 := by
          show (if 0 < dgt tx sz sp h9 then _ else _) = _
          rw [if_pos a0, ep, if_neg zb]
        have e2 : nmp tx sz sp = sp + 1 + 1 := by
          show (if 0 < dgt tx sz sp h9 then _ else _) = _
          rw [if_pos a0, ep]
          exact if_neg qb
        have pos : ¬ nmv tx sz sp < 0 := by
          rw [e1]
          have a9 : (dgt tx sz sp h9).toInt ≤ 9 := by
            rw [ea]
            have : ¬ h9 < nxt tx sz sp - c48 := fun w => q3 (Or.inr w)
            have := Int32.le_iff_toInt_le.mp (Int32.not_lt.mp this)
            rw [h9_int] at this
            exact this
          have b9 : 0 ≤ (dgt tx sz (sp + 1) h9).toInt ∧ (dgt tx sz (sp + 1) h9).toInt ≤ 9 := by
            have h0 : ¬ (dgt tx sz (sp + 1) h9).toInt < 0 := fun w => zb (lt0_iff.mpr w)
            refine ⟨by omega, ?_⟩
            rw [eb]
            have : ¬ h9 < nxt tx sz (sp + 1) - c48 := fun w => qb (Or.inr w)
            have := Int32.le_iff_toInt_le.mp (Int32.not_lt.mp this)
            rw [h9_int] at this
            exact this
          obtain ⟨x1, x2⟩ := i32_nI ha0 a9
          obtain ⟨y1, y2⟩ := i32_nI b9.1 b9.2
          rw [x1, y1]
          exact two_pos ⟨(dgt tx sz sp h9).toNatClampNeg, by omega⟩ ⟨(dgt tx sz (sp + 1) h9).toNatClampNeg, by omega⟩
        refine ⟨_, key2 ?_, fun _ => e1.symm⟩
        rw [if_neg zb, e2, decide_eq_false pos]
        refine XGo.go 1 rfl ?_
        refine XGo.ifn (by decide) ?_
        refine XGo.go 2 rfl ?_
        refine XGo.ifn (by decide) ?_
        refine XGo.go 2 rfl ?_
        refine XGo.ifn (Int32.not_le.mpr a0) ?_
        refine figs_body d ht he hsz lp ?_
        rw [ten_mul, ← eb]
        refine XGo.go 3 rfl ?_
        refine XGo.ifp (by decide) ?_
        exact figs_out _
    · have e1 : nmv tx sz sp = dgt tx sz sp h9 := if_neg a0
      have e2 : nmp tx sz sp = sp + 1 := by
        show (if 0 < dgt tx sz sp h9 then _ else _) = _
        rw [if_neg a0]
        exact ep
      refine ⟨_, key2 ?_, fun _ => e1.symm⟩
      rw [e1, e2, decide_eq_false z]
      by_cases zb : dgt tx sz (sp + 1) h9 < 0
      · rw [if_pos zb]
        refine XGo.go 1 rfl ?_
        refine XGo.ifp rfl ?_
        exact figs_out _
      · rw [if_neg zb]
        refine XGo.go 1 rfl ?_
        refine XGo.ifn (by decide) ?_
        refine XGo.go 2 rfl ?_
        refine XGo.ifn (by decide) ?_
        refine XGo.go 2 rfl ?_
        refine XGo.ifp (Int32.not_lt.mp a0) ?_
        exact figs_out _
end MP
/-! the model's parser: words and conditions -/
section MP
variable {h : XH} {e f tx : Nat → Int32} {sz sp : Nat} {wr : Bool}
theorem mh_lo {j : Nat} (hj : j < 536) : (MH h e f).2.2 j = h.2.2 j := by
  show (if j = 536 then _ else if j = 537 then _ else h.2.2 j) = _
  rw [if_neg (by omega), if_neg (by omega)]
theorem sb_mh (hB : SB0 h) : SB (MH h e f) := ⟨rfl, fun w h1 h2 => by
  rw [mh_lo (by omega), mh_lo (by omega)]
  exact hB w h1 h2⟩
set_option maxRecDepth 100000 in
theorem spells_l (d : Nat) (hB : SB0 h) (ht : TX f tx) (he : e 9 = nI sz) (hsz : sz ≤ 80) {w : Nat} (hw : 2 ≤ w ∧ w < 7) : ∀ (q i : Nat) (r : Bool × PS), i + q = 4 → r.2.1 ≤ sz → XGo (d + 4) xm_X7_spells (2, [some (.ref 536), some (.ref w), some (.int (nI i))], [], MR h e f r) none (MR h e f (andc r (cWord tx sz w q)))
  | q, i, r, hi, hs => by
    have head : ∀ {v : Option Value} {hend : XH}, XGo (d + 4) xm_X7_spells (if nI 4 ≤ nI i then 25 else 10, [some (.ref 536), some (.ref w), some (.int (nI i))], [], MR h e f r) v hend → XGo (d + 4) xm_X7_spells (2, [some (.ref 536), some (.ref w), some (.int (nI i))], [], MR h e f r) v hend := fun g => by
      refine XGo.go 2 rfl ?_
      refine XGo.call _ rfl xm_J0_length_8abf5 rfl rfl [.ref w] [.int (nI i)] rfl rfl (sb_rc (n := 0) (sb_mh hB) hw rfl rfl) (Nat.le_of_ble_eq_true rfl) (k_len (d := d + 2) (sb_mh hB) hw) ?_
      exact XGo.go 1 rfl g
    match q, hi with
    | 0, hi =>
      have hi : i = 4 := by omega
      subst hi
      have er : andc r (cWord tx sz w 0) = r := by
        obtain ⟨b, s⟩ := r
        cases b
        · exact andc_f (nf s)
        · exact andc_t rfl
      rw [er]
      refine head (XGo.ifp (Int32.le_refl _) ?_)
      exact XGo.vret _ rfl rfl rfl
    | q + 1, hi =>
      have hi4 : i < 4 := by omega
      have e3 : 3 - q = i := by omega
      refine head (XGo.ifn (fun z => absurd ((xnI_ge (by decide) (by omega)).mp z) (by omega)) ?_)
      refine XGo.go 3 rfl ?_
      refine XGo.call _ rfl xm_J0_charAt_5068e rfl rfl [.ref w, .int (nI i)] [.ref 536] rfl rfl (sb_rc (n := 0) (sb_mh hB) hw rfl rfl) (Nat.le_of_ble_eq_true rfl) (k_chr (d := d) (sb_mh hB) hw hi4) ?_
      have step : ∀ r2 : Bool × PS, r2.2.1 ≤ sz → andc r (cWord tx sz w (q + 1)) = andc r2 (cWord tx sz w q) → XGo (d + 4) xm_X7_spells (19, [some (.ref 536), some (.ref w), some (.int (nI i))], [], MR h e f r2) none (MR h e f (andc r (cWord tx sz w (q + 1)))) := fun r2 l2 er => by
        rw [er]
        refine XGo.go 2 rfl ?_
        show XGo _ _ (2, [some (.ref 536), some (.ref w), some (.int (nI i + Int32.ofInt 1))], [], _) _ _
        rw [show nI i + Int32.ofInt 1 = nI (i + 1) from nI_1 i]
        exact spells_l d hB ht he hsz hw q (i + 1) r2 (by omega) l2
      obtain ⟨b, s⟩ := r
      cases b
      · refine XGo.call _ rfl xm_X7_must rfl rfl [.ref 536, .int (bOf w i)] [] rfl rfl (rr536 rfl rfl) (Nat.le_of_ble_eq_true rfl) (k_must1 (d + 2)) ?_
        exact step (false, s) hs (by rw [andc_f (nf s), andc_f (nf s)])
      · refine XGo.call _ rfl xm_X7_must rfl rfl [.ref 536, .int (bOf w i)] [] rfl rfl (rr536 rfl rfl) (Nat.le_of_ble_eq_true rfl) (k_must0 (s := s) (d + 2) ht he hsz hs) ?_
        refine step (cTake tx sz (bOf w i) s) (cTake_le (b_ch ⟨w, hw.2⟩ ⟨i, hi4⟩) hs) ?_
        rw [andc_t (r := (true, s)) rfl]
        show andc (cTake tx sz (bOf w (3 - q)) s) _ = _
        rw [e3]
  termination_by q => q
theorem k_spells (d : Nat) (hB : SB0 h) (ht : TX f tx) (he : e 9 = nI sz) (hsz : sz ≤ 80) {w : Nat} (hw : 2 ≤ w ∧ w < 7) {s : PS} (hs : s.1 ≤ sz) : XCall xM (d + 5) 123 [.ref 536, .ref w] (MS h e f s.1 false) none (MR h e f (cWord tx sz w 4 s)) :=
  XCall.of (M := xm_X7_spells) rfl (Nat.le_of_ble_eq_true rfl) (XGo.go 2 rfl (spells_l d hB ht he hsz hw 4 0 (true, s) rfl hs))
/-- a condition's cells on both sides -/
def rg (hi : Int) (n : Int32) : Prop := 0 ≤ n.toInt ∧ n.toInt ≤ hi
theorem dgt_rg {tx : Nat → Int32} {sz sp : Nat} {hi : Int32} (nn : ¬ dgt tx sz sp hi < 0) : rg hi.toInt (dgt tx sz sp hi) := by
  refine ⟨Int.not_lt.mp fun w => nn (lt0_iff.mpr w), ?_⟩
  have q : ¬ (nxt tx sz sp - c48 < 0 ∨ hi < nxt tx sz sp - c48) := fun w => nn (dgt_neg.mpr w)
  rw [show dgt tx sz sp hi = nxt tx sz sp - c48 from if_neg q]
  exact Int32.le_iff_toInt_le.mp (Int32.not_lt.mp fun w => q (Or.inr w))
theorem two_rg : ∀ a b : Fin 10, rg 99 (nI a.val * (Int8.ofInt 10).toInt32 + nI b.val) := by
  unfold rg
  decide +kernel
theorem two_rg2 {a b : Int32} (ra : rg 9 a) (rb : rg 9 b) : rg 99 (a * (Int8.ofInt 10).toInt32 + b) := by
  obtain ⟨x1, x2⟩ := i32_nI ra.1 ra.2
  obtain ⟨y1, y2⟩ := i32_nI rb.1 rb.2
  have q := two_rg ⟨a.toNatClampNeg, by omega⟩ ⟨b.toNatClampNeg, by omega⟩
  rw [x1, y1]
  exact q
theorem nmv_rg {tx : Nat → Int32} {sz sp : Nat} (nn : ¬ nmv tx sz sp < 0) : rg 99 (nmv tx sz sp) := by
  unfold nmv at nn ⊢
  split
  · rename_i a0
    rw [if_pos a0] at nn
    have za : ¬ dgt tx sz sp (Int8.ofInt 9).toInt32 < 0 := fun w => by
      have a := Int32.lt_iff_toInt_lt.mp a0
      have b := lt0_iff.mp w
      rw [z0_int] at a
      omega
    have ra := dgt_rg za
    split
    · exact ⟨ra.1, Int.le_trans ra.2 (by decide)⟩
    · rename_i zb
      have rb := dgt_rg zb
      exact two_rg2 ra rb
  · rename_i a0
    rw [if_neg a0] at nn
    have ra := dgt_rg nn
    exact ⟨ra.1, Int.le_trans ra.2 (by decide)⟩
def CK (k n l m : Int32) : Prop := m = n ∧ ((k = Int32.ofInt 2 ∧ l = (Int8.ofInt 119).toInt32) ∨ (k = Int32.ofInt 1 ∧ l = (Int8.ofInt 97).toInt32 ∧ rg 99 n) ∨ (k = Int32.ofInt 3 ∧ l = (Int8.ofInt 100).toInt32 ∧ rg 3 n))
theorem TX.upd {i : Nat} {x : Int32} (ht : TX f tx) (hi : 90 ≤ i) : TX (upd f i x) tx := fun j hj => by
  rw [upd_ne (by omega)]
  exact ht j hj
theorem k_cond1 (d : Nat) {at_ : Nat} : XCall xM (d + 1) 126 [.ref 536, .int (nI at_)] (MS h e f sp true) none (MS h e f sp true) := by
  refine XCall.of (M := xm_X7_cond) rfl (Nat.le_of_ble_eq_true rfl) ?_
  refine XGo.go 3 rfl ?_
  refine XGo.ifn (show ¬ b01 true = 0 by decide) ?_
  exact XGo.vret _ rfl rfl rfl
abbrev mcL (a : Nat) (z : Int32) : XL := [some (.ref 536), some (.int (nI a)), some (.int z)]
set_option maxRecDepth 100000 in
/-- from the spot on: the kind is put -/
theorem cond_a (d : Nat) {a : Nat} (ha : a + 1 < 490) {z k : Int32} (hk : k = if z = (Int8.ofInt 97).toInt32 then Int32.ofInt 1 else if z = (Int8.ofInt 119).toInt32 then Int32.ofInt 2 else Int32.ofInt 3) {v : Option Value} {hend : XH} (g : XGo (d + 2) xm_X7_cond (if z = (Int8.ofInt 97).toInt32 then 101 else 108, mcL a z, [.int (nI (a + 1)), .ref 537], MS h e (upd f a k) (if wr = true then sp else sp + 1) wr) v hend) : XGo (d + 2) xm_X7_cond (40, mcL a z, [], MS h e f sp wr) v hend := by
  have fin : ∀ sp2 : Nat, sp2 = (if wr = true then sp else sp + 1) → XGo (d + 2) xm_X7_cond (61, mcL a z, [], MS h e f sp2 wr) v hend := fun sp2 es => by
    rw [← es] at g
    have put : XGo (d + 2) xm_X7_cond (87, mcL a z, [.int k, .int (nI a), .ref 537], MS h e f sp2 wr) v hend := by
      refine XGo.pfs rfl (by omega) ?_
      refine XGo.go 5 rfl ?_
      show XGo _ _ (95, mcL a z, [.int (nI a + Int32.ofInt 1), .ref 537], _) _ _
      rw [show nI a + Int32.ofInt 1 = nI (a + 1) from nI_1 a]
      exact XGo.go 3 rfl g
    refine XGo.go 6 rfl ?_
    by_cases e1 : z = (Int8.ofInt 97).toInt32
    · rw [if_pos e1] at hk
      subst hk
      refine XGo.ifp e1 ?_
      exact XGo.go 2 rfl put
    · rw [if_neg e1] at hk
      refine XGo.ifn e1 ?_
      refine XGo.go 3 rfl ?_
      by_cases e2 : z = (Int8.ofInt 119).toInt32
      · rw [if_pos e2] at hk
        subst hk
        refine XGo.ifp e2 ?_
        exact XGo.go 2 rfl put
      · rw [if_neg e2] at hk
        subst hk
        refine XGo.ifn e2 ?_
        exact XGo.go 1 rfl put
  refine XGo.go 6 rfl ?_
  show XGo _ _ (if b01 wr = 0 then 56 else 52, mcL a z, [.int (nI sp), .ref 536], _) _ _
  cases wr
  · refine XGo.ifp rfl ?_
    refine XGo.go 2 rfl ?_
    show XGo _ _ (58, _, [.int (nI sp + Int32.ofInt 1), .ref 536], _) _ _
    rw [show nI sp + Int32.ofInt 1 = nI (sp + 1) from nI_1 sp]
    refine XGo.psp rfl (sp + 1) (fin _ rfl)
  · refine XGo.ifn (by decide) ?_
    refine XGo.go 3 rfl ?_
    show XGo _ _ (58, _, [.int (nI sp + Int32.ofInt 0), .ref 536], _) _ _
    rw [show nI sp + Int32.ofInt 0 = nI sp from Int32.add_zero _]
    refine XGo.psp rfl sp (fin _ rfl)
set_option maxRecDepth 100000 in
theorem k_cond0 (d : Nat) (ht : TX f tx) (he : e 9 = nI sz) (hsz : sz ≤ 80) {s : PS} (hs : s.1 ≤ sz) {a i : Nat} (ha9 : 90 ≤ a) (ha : a + 1 < 490) : ∃ f2 : Nat → Int32, XCall xM (d + 3) 126 [.ref 536, .int (nI a)] (MS h e f s.1 false) none (MR h e f2 (cCond tx sz i s)) ∧ (∀ j, ¬ j = a → ¬ j = a + 1 → f2 j = f j) ∧ ((cCond tx sz i s).1 = true → CK (f2 a) (f2 (a + 1)) ((cCond tx sz i s).2.2.1 i) ((cCond tx sz i s).2.2.2 i)) := by
  have key : ∀ {v : Option Value} {hend : XH}, XGo (d + 2) xm_X7_cond (17, mcL a (nxt tx sz s.1), [.int (Int8.ofInt 97).toInt32, .int (nxt tx sz s.1), .ref 536], MS h e f s.1 false) v hend → XCall xM (d + 3) 126 [.ref 536, .int (nI a)] (MS h e f s.1 false) v hend := fun g => by
    refine XCall.of (M := xm_X7_cond) rfl (Nat.le_of_ble_eq_true rfl) ?_
    refine XGo.go 3 rfl ?_
    refine XGo.ifp (show b01 false = 0 by decide) ?_
    refine XGo.go 1 rfl ?_
    refine XGo.call _ rfl xm_X7_here rfl rfl [.ref 536] [] rfl rfl (rr536 rfl rfl) (Nat.le_of_ble_eq_true rfl) (k_here (d + 1) ht he hsz (by omega)) ?_
    exact XGo.go 4 rfl g
  have hl : ∀ ch : Int32, ¬ ch = Int32.ofInt (-1) → nxt tx sz s.1 = ch → s.1 + 1 ≤ sz := fun ch h1 h2 => nxt_lt h1 h2
  have two : ∀ (x y : Int32) (j : Nat), ¬ j = a → ¬ j = a + 1 → upd (upd f a x) (a + 1) y j = f j := fun x y j h1 h2 => by rw [upd_ne h2, upd_ne h1]
  have atA : ∀ x y : Int32, upd (upd f a x) (a + 1) y a = x := fun x y => by rw [upd_ne (by omega), upd_at]
  have fin : ∀ (z x y : Int32) (sp2 : Nat) (w2 : Bool), XGo (d + 2) xm_X7_cond (123, mcL a z, [.int y, .int (nI (a + 1)), .ref 537], MS h e (upd f a x) sp2 w2) none (MS h e (upd (upd f a x) (a + 1) y) sp2 w2) := fun z x y sp2 w2 => by
    refine XGo.pfs rfl ha ?_
    exact XGo.vret _ rfl rfl rfl
  unfold cCond
  generalize hz : nxt tx sz s.1 = z at *
  by_cases e1 : z = (Int8.ofInt 97).toInt32
  · have lz := hl _ (by decide) e1
    have n119 : ¬ z = (Int8.ofInt 119).toInt32 := by rw [e1]; decide
    rw [if_neg n119, if_pos e1]
    obtain ⟨v, c1, c2⟩ := k_figures (h := h) (f := upd f a (Int32.ofInt 1)) d (ht.upd ha9) he hsz lz
    refine ⟨upd (upd f a (Int32.ofInt 1)) (a + 1) v, key ?_, two _ _, fun ok => ?_⟩
    · refine XGo.go 1 rfl ?_
      refine XGo.ifp e1 ?_
      refine XGo.go 1 rfl ?_
      refine XGo.pwr rfl false ?_
      refine cond_a d ha (wr := false) (k := Int32.ofInt 1) (by rw [if_pos e1]) ?_
      refine XGo.ifp e1 ?_
      refine XGo.go 1 rfl ?_
      refine XGo.call _ rfl xm_X7_figures rfl rfl [.ref 536] [.int (nI (a + 1)), .ref 537] rfl rfl (rr536 rfl rfl) (Nat.le_of_ble_eq_true rfl) c1 ?_
      refine XGo.go 1 rfl ?_
      have := fin z (Int32.ofInt 1) v (nmp tx sz (s.1 + 1)) (decide (nmv tx sz (s.1 + 1) < 0))
      show XGo _ _ _ _ (MS h e _ (nmp tx sz (s.1 + 1)) (!(!decide (nmv tx sz (s.1 + 1) < 0))))
      rw [Bool.not_not]
      exact this
    · have nn : ¬ nmv tx sz (s.1 + 1) < 0 := by
        have : (!decide (nmv tx sz (s.1 + 1) < 0)) = true := ok
        simpa using this
      rw [atA, upd_at]
      refine ⟨?_, Or.inr (Or.inl ⟨rfl, ?_, ?_⟩)⟩
      · show upd s.2.2 i (nmv tx sz (s.1 + 1)) i = v
        rw [upd_at, c2 nn]
      · show upd s.2.1 i z i = _
        rw [upd_at, e1]
      · rw [c2 nn]
        exact nmv_rg nn
  · by_cases e2 : z = (Int8.ofInt 119).toInt32
    · have lz := hl _ (by decide) e2
      rw [if_pos e2]
      refine ⟨upd (upd f a (Int32.ofInt 2)) (a + 1) (Int32.ofInt 0), key ?_, two _ _, fun _ => ?_⟩
      · refine XGo.go 1 rfl ?_
        refine XGo.ifn e1 ?_
        refine XGo.go 3 rfl ?_
        refine XGo.ifp e2 ?_
        refine XGo.go 1 rfl ?_
        refine XGo.pwr rfl false ?_
        refine cond_a d ha (wr := false) (k := Int32.ofInt 2) (by rw [if_neg e1, if_pos e2]) ?_
        refine XGo.ifn e1 ?_
        refine XGo.go 3 rfl ?_
        refine XGo.ifn (by rw [e2]; decide) ?_
        refine XGo.go 1 rfl ?_
        exact fin z (Int32.ofInt 2) (Int32.ofInt 0) (s.1 + 1) false
      · rw [atA, upd_at]
        refine ⟨?_, Or.inl ⟨rfl, ?_⟩⟩
        · show upd s.2.2 i (Int32.ofInt 0) i = _
          rw [upd_at]
        · show upd s.2.1 i z i = _
          rw [upd_at, e2]
    · rw [if_neg e2, if_neg e1]
      by_cases e3 : z = (Int8.ofInt 100).toInt32
      · have lz := hl _ (by decide) e3
        rw [if_pos e3]
        obtain ⟨v, c1, c2⟩ := k_figure0 (h := h) (f := upd f a (Int32.ofInt 3)) (hi := Int32.ofInt 3) d (ht.upd ha9) he hsz lz (by decide) (by decide)
        refine ⟨upd (upd f a (Int32.ofInt 3)) (a + 1) v, key ?_, two _ _, fun ok => ?_⟩
        · refine XGo.go 1 rfl ?_
          refine XGo.ifn e1 ?_
          refine XGo.go 3 rfl ?_
          refine XGo.ifn e2 ?_
          refine XGo.go 3 rfl ?_
          refine XGo.ifp e3 ?_
          refine XGo.go 1 rfl ?_
          refine XGo.pwr rfl false ?_
          refine cond_a d ha (wr := false) (k := Int32.ofInt 3) (by rw [if_neg e1, if_neg e2]) ?_
          refine XGo.ifn e1 ?_
          refine XGo.go 3 rfl ?_
          refine XGo.ifp e3 ?_
          refine XGo.go 2 rfl ?_
          refine XGo.call _ rfl xm_X7_figure rfl rfl [.ref 536, .int (Int32.ofInt 3)] [.int (nI (a + 1)), .ref 537] rfl rfl (rr536 rfl rfl) (Nat.le_of_ble_eq_true rfl) c1 ?_
          refine XGo.go 1 rfl ?_
          have := fin z (Int32.ofInt 3) v (dgp tx sz (s.1 + 1) (Int32.ofInt 3)) (decide (dgt tx sz (s.1 + 1) (Int32.ofInt 3) < 0))
          show XGo _ _ _ _ (MS h e _ (dgp tx sz (s.1 + 1) (Int32.ofInt 3)) (!(!decide (dgt tx sz (s.1 + 1) (Int32.ofInt 3) < 0))))
          rw [Bool.not_not]
          exact this
        · have nn : ¬ dgt tx sz (s.1 + 1) (Int32.ofInt 3) < 0 := by
            have : (!decide (dgt tx sz (s.1 + 1) (Int32.ofInt 3) < 0)) = true := ok
            simpa using this
          rw [atA, upd_at]
          refine ⟨?_, Or.inr (Or.inr ⟨rfl, ?_, ?_⟩)⟩
          · show upd s.2.2 i (dgt tx sz (s.1 + 1) (Int32.ofInt 3)) i = v
            rw [upd_at, c2 nn]
          · show upd s.2.1 i z i = _
            rw [upd_at, e3]
          · rw [c2 nn]
            exact dgt_rg nn
      · rw [if_neg e3]
        refine ⟨upd (upd f a (Int32.ofInt 3)) (a + 1) (Int32.ofInt 0), key ?_, two _ _, fun ok => absurd ok Bool.false_ne_true⟩
        refine XGo.go 1 rfl ?_
        refine XGo.ifn e1 ?_
        refine XGo.go 3 rfl ?_
        refine XGo.ifn e2 ?_
        refine XGo.go 3 rfl ?_
        refine XGo.ifn e3 ?_
        refine XGo.go 2 rfl ?_
        refine XGo.pwr rfl true ?_
        refine cond_a d ha (wr := true) (k := Int32.ofInt 3) (by rw [if_neg e1, if_neg e2]) ?_
        refine XGo.ifn e1 ?_
        refine XGo.go 3 rfl ?_
        refine XGo.ifn e3 ?_
        refine XGo.go 1 rfl ?_
        exact fin z (Int32.ofInt 3) (Int32.ofInt 0) s.1 true
end MP
