/-! the class's Reader: heaps said as functions -/
/-- the heap with this reader: text, size, place; its grant: clauses, letters, numbers -/
def RH (h : XH) (tx : Nat → Int32) (sz pl : Nat) (k : Int32) (L N : Nat → Int32) : XH := (549, 14048, fun j => if j = 79 then .inl (3, [.ref 80, .ref 83, .int (nI sz), .int (nI pl)]) else if j = 80 then .inl (1, [.int k, .ref 81, .ref 82]) else if j = 81 then .inr (.inl (0, 24, L)) else if j = 82 then .inr (.inl (0, 24, N)) else if j = 83 then .inr (.inl (0, 80, tx)) else h.2.2 j)
/-- the byte here, or -1 -/
def nxt (tx : Nat → Int32) (sz pl : Nat) : Int32 := if pl < sz then tx pl else Int32.ofInt (-1)
theorem nIle {a b : Nat} (ha : a < 2147483648) (hb : b < 2147483648) : nI a ≤ nI b ↔ a ≤ b := xnI_ge ha hb
section RD
variable {h : XH} {tx : Nat → Int32} {sz pl : Nat} {k : Int32} {L N : Nat → Int32}
theorem RH.place {pl2 : Nat} : xup (RH h tx sz pl k L N) 79 (.inl (3, [.ref 80, .ref 83, .int (nI sz), .int (nI pl2)])) = RH h tx sz pl2 k L N := by
  unfold xup RH
  refine Prod.ext rfl (Prod.ext rfl (funext fun j => ?_))
  dsimp only
  by_cases e : j = 79
  · simp only [if_pos e]
  · simp only [if_neg e]
theorem RH.let {L2 : Nat → Int32} : xup (RH h tx sz pl k L N) 81 (.inr (.inl (0, 24, L2))) = RH h tx sz pl k L2 N := by
  unfold xup RH
  refine Prod.ext rfl (Prod.ext rfl (funext fun j => ?_))
  dsimp only
  by_cases e : j = 81
  · subst e
    rfl
  · simp only [if_neg e]
theorem RH.num {N2 : Nat → Int32} : xup (RH h tx sz pl k L N) 82 (.inr (.inl (0, 24, N2))) = RH h tx sz pl k L N2 := by
  unfold xup RH
  refine Prod.ext rfl (Prod.ext rfl (funext fun j => ?_))
  dsimp only
  by_cases e : j = 82
  · subst e
    rfl
  · simp only [if_neg e]
theorem RH.cla {k2 : Int32} : xup (RH h tx sz pl k L N) 80 (.inl (1, [.int k2, .ref 81, .ref 82])) = RH h tx sz pl k2 L N := by
  unfold xup RH
  refine Prod.ext rfl (Prod.ext rfl (funext fun j => ?_))
  dsimp only
  by_cases e : j = 80
  · subst e
    rfl
  · simp only [if_neg e]
theorem rc79 : xrecv xm_X3_next [.ref 79] (RH h tx sz pl k L N) := fun _ => ⟨79, _, rfl, rfl, by decide, Nat.le_of_ble_eq_true rfl⟩
set_option maxRecDepth 100000 in
theorem k_next (d : Nat) (hsz : sz ≤ 80) (hpl : pl ≤ 80) : XCall xM (d + 1) 41 [.ref 79] (RH h tx sz pl k L N) (some (.int (nxt tx sz pl))) (RH h tx sz pl k L N) := by
  refine XCall.of (M := xm_X3_next) rfl (Nat.le_of_ble_eq_true rfl) ?_
  refine XGo.go 3 rfl ?_
  refine XGo.ifn (xnI_lt0 (by omega)) ?_
  refine XGo.go 5 rfl ?_
  unfold nxt
  by_cases hp : pl < sz
  · rw [if_pos hp]
    refine XGo.ifn (fun q => absurd ((nIle (by omega) (by omega)).mp q) (by omega)) ?_
    refine XGo.go 6 rfl ?_
    refine XGo.ifn (fun q => absurd ((xnI_ge (m := 80) (by decide) (by omega)).mp q) (by omega)) ?_
    refine XGo.go 4 rfl ?_
    refine XGo.iald rfl (xia_i (n := 80) (f := tx) rfl (Nat.le_of_ble_eq_true rfl) (ca_nI (by omega) (by decide))) ?_
    rw [xnI_nat (by omega)]
    refine XGo.go 1 rfl ?_
    exact XGo.iret _ rfl rfl .int rfl rfl
  · rw [if_neg hp]
    refine XGo.ifp ((nIle (by omega) (by omega)).mpr (by omega)) ?_
    refine XGo.go 1 rfl ?_
    exact XGo.iret _ rfl rfl .int rfl rfl
theorem nxt_lt {s : Int32} (hs : ¬ s = Int32.ofInt (-1)) (e : nxt tx sz pl = s) : pl < sz := by
  unfold nxt at e
  by_cases hp : pl < sz
  · exact hp
  · rw [if_neg hp] at e
    exact absurd e.symm hs
set_option maxRecDepth 100000 in
theorem k_take (d : Nat) (hsz : sz ≤ 80) (hpl : pl ≤ 80) {s : Int32} : XCall xM (d + 2) 40 [.ref 79, .int s] (RH h tx sz pl k L N) (some (.int (if nxt tx sz pl = s then 1 else 0))) (RH h tx sz (if nxt tx sz pl = s then pl + 1 else pl) k L N) := by
  refine XCall.of (M := xm_X3_take) rfl (Nat.le_of_ble_eq_true rfl) ?_
  refine XGo.go 1 rfl ?_
  refine XGo.call _ rfl xm_X3_next rfl rfl [.ref 79] [] rfl rfl rc79 (Nat.le_of_ble_eq_true rfl) (k_next d hsz hpl) ?_
  refine XGo.go 2 rfl ?_
  by_cases e : nxt tx sz pl = s
  · rw [if_pos e, if_pos e, if_pos e]
    refine XGo.go 5 rfl ?_
    refine XGo.putf rfl (rfl : (RH h tx sz pl k L N).2.2 79 = _) (Nat.le_of_ble_eq_true rfl) (by decide) (Nat.le_of_ble_eq_true rfl) rfl rfl ?_
    show XGo _ _ (_, _, [], xup (RH h tx sz pl k L N) 79 (.inl (3, [.ref 80, .ref 83, .int (nI sz), .int (nI pl + Int32.ofInt 1)]))) _ _
    rw [show nI pl + Int32.ofInt 1 = nI (pl + 1) from nI_1 pl, RH.place]
    refine XGo.go 1 rfl ?_
    exact XGo.iret _ rfl rfl .boolean rfl rfl
  · rw [if_neg e, if_neg e, if_neg e]
    refine XGo.go 1 rfl ?_
    exact XGo.iret _ rfl rfl .boolean rfl rfl
/-- a digit up to hi, or -1 -/
def dgt (tx : Nat → Int32) (sz pl : Nat) (hi : Int32) : Int32 := if nxt tx sz pl - (Int8.ofInt 48).toInt32 < 0 ∨ hi < nxt tx sz pl - (Int8.ofInt 48).toInt32 then Int32.ofInt (-1) else nxt tx sz pl - (Int8.ofInt 48).toInt32
/-- the place behind it -/
def dgp (tx : Nat → Int32) (sz pl : Nat) (hi : Int32) : Nat := if nxt tx sz pl - (Int8.ofInt 48).toInt32 < 0 ∨ hi < nxt tx sz pl - (Int8.ofInt 48).toInt32 then pl else pl + 1
theorem dgp_le {hi : Int32} (hpl : pl ≤ sz) : dgp tx sz pl hi ≤ sz := by
  unfold dgp
  split
  · exact hpl
  · rename_i e
    by_cases hp : pl < sz
    · omega
    · unfold nxt at e
      rw [if_neg hp] at e
      exact absurd (Or.inl (by decide)) e
set_option maxRecDepth 100000 in
theorem k_digit (d : Nat) (hsz : sz ≤ 80) (hpl : pl ≤ 80) {hi : Int32} : XCall xM (d + 2) 39 [.ref 79, .int hi] (RH h tx sz pl k L N) (some (.int (dgt tx sz pl hi))) (RH h tx sz (dgp tx sz pl hi) k L N) := by
  refine XCall.of (M := xm_X3_readDigit) rfl (Nat.le_of_ble_eq_true rfl) ?_
  refine XGo.go 1 rfl ?_
  refine XGo.call _ rfl xm_X3_next rfl rfl [.ref 79] [] rfl rfl rc79 (Nat.le_of_ble_eq_true rfl) (k_next d hsz hpl) ?_
  unfold dgt dgp
  refine XGo.go 5 rfl ?_
  show XGo _ _ (if nxt tx sz pl - (Int8.ofInt 48).toInt32 < 0 then 17 else 12, [some (.ref 79), some (.int hi), some (.int (nxt tx sz pl - (Int8.ofInt 48).toInt32))], [], _) _ _
  generalize nxt tx sz pl - (Int8.ofInt 48).toInt32 = z at *
  have bad : z < 0 ∨ hi < z → XGo (d + 1) xm_X3_readDigit (17, [some (.ref 79), some (.int hi), some (.int z)], [], RH h tx sz pl k L N) (some (.int (if z < 0 ∨ hi < z then Int32.ofInt (-1) else z))) (RH h tx sz (if z < 0 ∨ hi < z then pl else pl + 1) k L N) := fun q => by
    rw [if_pos q, if_pos q]
    refine XGo.go 1 rfl ?_
    exact XGo.iret _ rfl rfl .int rfl rfl
  by_cases h1 : z < 0
  · exact XGo.ifp h1 (bad (Or.inl h1))
  · refine XGo.ifn h1 ?_
    refine XGo.go 3 rfl ?_
    by_cases h2 : z ≤ hi
    · refine XGo.ifp h2 ?_
      have q : ¬ (z < 0 ∨ hi < z) := fun q => q.elim h1 (fun q => Int32.not_lt.mpr h2 q)
      rw [if_neg q, if_neg q]
      refine XGo.go 5 rfl ?_
      refine XGo.putf rfl (rfl : (RH h tx sz pl k L N).2.2 79 = _) (Nat.le_of_ble_eq_true rfl) (by decide) (Nat.le_of_ble_eq_true rfl) rfl rfl ?_
      show XGo _ _ (_, _, [], xup (RH h tx sz pl k L N) 79 (.inl (3, [.ref 80, .ref 83, .int (nI sz), .int (nI pl + Int32.ofInt 1)]))) _ _
      rw [show nI pl + Int32.ofInt 1 = nI (pl + 1) from nI_1 pl, RH.place]
      refine XGo.go 1 rfl ?_
      exact XGo.iret _ rfl rfl .int rfl rfl
    · exact XGo.ifn h2 (bad (Or.inr (Int32.not_le.mp h2)))
end RD
/-! the class's Reader: numbers, parts, conditions -/
abbrev PS := Nat × (Nat → Int32) × (Nat → Int32)
abbrev RS (h : XH) (tx : Nat → Int32) (sz : Nat) (k : Int32) (s : PS) : XH := RH h tx sz s.1 k s.2.1 s.2.2
abbrev b01 (b : Bool) : Int32 := if b = true then 1 else 0
theorem nb01 (b : Bool) : narrow .boolean (.int (b01 b)) = .int (b01 b) := by cases b <;> rfl
/-- one and then the other -/
def andc (r : Bool × PS) (f : PS → Bool × PS) : Bool × PS := if r.1 = true then f r.2 else (false, r.2)
theorem andc_t {r : Bool × PS} {f : PS → Bool × PS} (h : r.1 = true) : andc r f = f r.2 := if_pos h
theorem andc_f {r : Bool × PS} {f : PS → Bool × PS} (h : ¬ r.1 = true) : andc r f = (false, r.2) := if_neg h
def nmv (tx : Nat → Int32) (sz pl : Nat) : Int32 := if 0 < dgt tx sz pl (Int8.ofInt 9).toInt32 then (if dgt tx sz (dgp tx sz pl (Int8.ofInt 9).toInt32) (Int8.ofInt 9).toInt32 < 0 then dgt tx sz pl (Int8.ofInt 9).toInt32 else dgt tx sz pl (Int8.ofInt 9).toInt32 * (Int8.ofInt 10).toInt32 + dgt tx sz (dgp tx sz pl (Int8.ofInt 9).toInt32) (Int8.ofInt 9).toInt32) else dgt tx sz pl (Int8.ofInt 9).toInt32
def nmp (tx : Nat → Int32) (sz pl : Nat) : Nat := if 0 < dgt tx sz pl (Int8.ofInt 9).toInt32 then dgp tx sz (dgp tx sz pl (Int8.ofInt 9).toInt32) (Int8.ofInt 9).toInt32 else dgp tx sz pl (Int8.ofInt 9).toInt32
def cTake (tx : Nat → Int32) (sz : Nat) (ch : Int32) (s : PS) : Bool × PS := if nxt tx sz s.1 = ch then (true, s.1 + 1, s.2) else (false, s)
def cSay (i : Nat) (l n : Int32) (s : PS) : PS := (s.1, upd s.2.1 i l, upd s.2.2 i n)
/-- a part said: right where its number isn't below 0 -/
def cPart (i : Nat) (l n : Int32) (s : PS) : Bool × PS := (!decide (n < 0), cSay i l n s)
def cCond (tx : Nat → Int32) (sz i : Nat) (s : PS) : Bool × PS :=
  if nxt tx sz s.1 = (Int8.ofInt 119).toInt32 then cPart i (nxt tx sz s.1) (Int32.ofInt 0) (s.1 + 1, s.2)
  else if nxt tx sz s.1 = (Int8.ofInt 97).toInt32 then cPart i (nxt tx sz s.1) (nmv tx sz (s.1 + 1)) (nmp tx sz (s.1 + 1), s.2)
  else if nxt tx sz s.1 = (Int8.ofInt 100).toInt32 then cPart i (nxt tx sz s.1) (dgt tx sz (s.1 + 1) (Int32.ofInt 3)) (dgp tx sz (s.1 + 1) (Int32.ofInt 3), s.2)
  else (false, s)
section RD
variable {h : XH} {tx : Nat → Int32} {sz pl : Nat} {k : Int32} {L N : Nat → Int32} {s : PS}
theorem nmp_le (hpl : pl ≤ sz) : nmp tx sz pl ≤ sz := by
  unfold nmp
  split
  · exact dgp_le (dgp_le hpl)
  · exact dgp_le hpl
set_option maxRecDepth 100000 in
theorem k_number (d : Nat) (hsz : sz ≤ 80) (hpl : pl ≤ sz) : XCall xM (d + 3) 38 [.ref 79] (RH h tx sz pl k L N) (some (.int (nmv tx sz pl))) (RH h tx sz (nmp tx sz pl) k L N) := by
  refine XCall.of (M := xm_X3_readNumber) rfl (Nat.le_of_ble_eq_true rfl) ?_
  refine XGo.go 2 rfl ?_
  refine XGo.call _ rfl xm_X3_readDigit rfl rfl [.ref 79, .int (Int8.ofInt 9).toInt32] [] rfl rfl (fun _ => ⟨79, _, rfl, rfl, by decide, Nat.le_of_ble_eq_true rfl⟩) (Nat.le_of_ble_eq_true rfl) (k_digit d hsz (by omega)) ?_
  unfold nmv nmp
  have hp1 : dgp tx sz pl (Int8.ofInt 9).toInt32 ≤ sz := dgp_le hpl
  generalize dgp tx sz pl (Int8.ofInt 9).toInt32 = p1 at *
  generalize dgt tx sz pl (Int8.ofInt 9).toInt32 = a at *
  refine XGo.go 3 rfl ?_
  by_cases ha : 0 < a
  · rw [if_pos ha, if_pos ha, if_pos ha]
    refine XGo.go 2 rfl ?_
    refine XGo.call _ rfl xm_X3_readDigit rfl rfl [.ref 79, .int (Int8.ofInt 9).toInt32] [] rfl rfl (fun _ => ⟨79, _, rfl, rfl, by decide, Nat.le_of_ble_eq_true rfl⟩) (Nat.le_of_ble_eq_true rfl) (k_digit d hsz (by omega)) ?_
    generalize dgp tx sz p1 (Int8.ofInt 9).toInt32 = p2 at *
    generalize dgt tx sz p1 (Int8.ofInt 9).toInt32 = b at *
    refine XGo.go 3 rfl ?_
    by_cases hb : b < 0
    · rw [if_pos hb]
      refine XGo.ifn (Int32.not_le.mpr hb) ?_
      refine XGo.go 2 rfl ?_
      exact XGo.iret _ rfl rfl .int rfl rfl
    · rw [if_neg hb]
      refine XGo.ifp (Int32.not_lt.mp hb) ?_
      refine XGo.go 5 rfl ?_
      exact XGo.iret _ rfl rfl .int rfl rfl
  · rw [if_neg ha, if_neg ha, if_neg ha]
    refine XGo.go 1 rfl ?_
    exact XGo.iret _ rfl rfl .int rfl rfl
theorem idx4 : ∀ c : Fin 6, ∀ p : Fin 4, nI c.val * Int32.ofInt 4 + nI p.val = nI (4 * c.val + p.val) := by decide +kernel
set_option maxRecDepth 100000 in
theorem k_say (d : Nat) {c p : Nat} (hc : c < 6) (hp : p < 4) (l n : Int32) : XCall xM (d + 2) 14 [.ref 80, .int (nI c), .int (nI p), .int l, .int n] (RS h tx sz k s) none (RS h tx sz k (cSay (4 * c + p) l n s)) := by
  have ei := idx4 ⟨c, hc⟩ ⟨p, hp⟩
  dsimp only at ei
  refine XCall.of (M := xm_X1_say) rfl (Nat.le_of_ble_eq_true rfl) ?_
  refine XGo.go 8 rfl ?_
  show XGo _ _ (10, _, [.int l, .int (nI c * Int32.ofInt 4 + nI p), .ref 81], _) _ _
  rw [ei]
  have q1 := k_put_in d (RS h tx sz k s) 81 24 s.2.1 (nI (4 * c + p)) l rfl (Nat.le_of_ble_eq_true rfl) (by decide) (by decide) (ca_nI (by omega) (by decide))
  rw [xnI_nat (by omega), RH.let] at q1
  refine XGo.call _ rfl xm_X6_put rfl rfl [.ref 81, .int (nI (4 * c + p)), .int l] [] rfl rfl (fun z => absurd rfl z) (Nat.le_of_ble_eq_true rfl) q1 ?_
  refine XGo.go 8 rfl ?_
  show XGo _ _ (24, _, [.int n, .int (nI c * Int32.ofInt 4 + nI p), .ref 82], _) _ _
  rw [ei]
  have q2 := k_put_in d (RH h tx sz s.1 k (upd s.2.1 (4 * c + p) l) s.2.2) 82 24 s.2.2 (nI (4 * c + p)) n rfl (Nat.le_of_ble_eq_true rfl) (by decide) (by decide) (ca_nI (by omega) (by decide))
  rw [xnI_nat (by omega), RH.num] at q2
  refine XGo.call _ rfl xm_X6_put rfl rfl [.ref 82, .int (nI (4 * c + p)), .int n] [] rfl rfl (fun z => absurd rfl z) (Nat.le_of_ble_eq_true rfl) q2 ?_
  exact XGo.vret _ rfl rfl rfl
set_option maxRecDepth 100000 in
theorem k_part (d : Nat) {c p : Nat} (hc : c < 6) (hp : p < 4) (l n : Int32) : XCall xM (d + 3) 36 [.ref 79, .int (nI c), .int (nI p), .int l, .int n] (RS h tx sz k s) (some (.int (b01 (cPart (4 * c + p) l n s).1))) (RS h tx sz k (cPart (4 * c + p) l n s).2) := by
  refine XCall.of (M := xm_X3_readPart) rfl (Nat.le_of_ble_eq_true rfl) ?_
  refine XGo.go 6 rfl ?_
  refine XGo.call _ rfl xm_X1_say rfl rfl [.ref 80, .int (nI c), .int (nI p), .int l, .int n] [] rfl rfl (fun _ => ⟨80, _, rfl, rfl, by decide, Nat.le_of_ble_eq_true rfl⟩) (Nat.le_of_ble_eq_true rfl) (k_say d hc hp l n) ?_
  refine XGo.go 2 rfl ?_
  unfold cPart
  dsimp only
  by_cases e : n < 0
  · rw [if_pos e]
    refine XGo.go 1 rfl ?_
    rw [show (!decide (n < 0)) = false by simp [e]]
    exact XGo.iret _ rfl rfl .boolean rfl rfl
  · rw [if_neg e]
    refine XGo.go 2 rfl ?_
    rw [show (!decide (n < 0)) = true by simp [e]]
    exact XGo.iret _ rfl rfl .boolean rfl rfl
theorem cPart_p {i : Nat} {l n : Int32} : (cPart i l n s).2.1 = s.1 := rfl
theorem cCond_le {i : Nat} (hs : s.1 ≤ sz) : (cCond tx sz i s).2.1 ≤ sz := by
  unfold cCond
  split
  · rename_i e
    have := nxt_lt (by decide) e
    show s.1 + 1 ≤ sz
    omega
  · split
    · rename_i e
      have := nxt_lt (by decide) e
      exact nmp_le (by omega)
    · split
      · rename_i e
        have := nxt_lt (by decide) e
        exact dgp_le (by omega)
      · exact hs
theorem cTake_le {ch : Int32} (hch : ¬ ch = Int32.ofInt (-1)) (hs : s.1 ≤ sz) : (cTake tx sz ch s).2.1 ≤ sz := by
  unfold cTake
  split
  · rename_i e
    have := nxt_lt hch e
    show s.1 + 1 ≤ sz
    omega
  · exact hs
theorem k_takes (d : Nat) (hsz : sz ≤ 80) (hs : s.1 ≤ sz) {ch : Int32} : XCall xM (d + 2) 40 [.ref 79, .int ch] (RS h tx sz k s) (some (.int (b01 (cTake tx sz ch s).1))) (RS h tx sz k (cTake tx sz ch s).2) := by
  have q := k_take d (h := h) (tx := tx) (k := k) (L := s.2.1) (N := s.2.2) (s := ch) hsz (show s.1 ≤ 80 by omega)
  unfold cTake
  by_cases e : nxt tx sz s.1 = ch
  · rw [if_pos e] at q
    rw [if_pos e] at q
    rw [if_pos e]
    exact q
  · rw [if_neg e] at q
    rw [if_neg e] at q
    rw [if_neg e]
    exact q
set_option maxRecDepth 100000 in
theorem k_cond (d : Nat) (hsz : sz ≤ 80) (hs : s.1 ≤ sz) {c p : Nat} (hc : c < 6) (hp : p < 4) : XCall xM (d + 4) 35 [.ref 79, .int (nI c), .int (nI p)] (RS h tx sz k s) (some (.int (b01 (cCond tx sz (4 * c + p) s).1))) (RS h tx sz k (cCond tx sz (4 * c + p) s).2) := by
  refine XCall.of (M := xm_X3_readCond) rfl (Nat.le_of_ble_eq_true rfl) ?_
  refine XGo.go 1 rfl ?_
  refine XGo.call _ rfl xm_X3_next rfl rfl [.ref 79] [] rfl rfl rc79 (Nat.le_of_ble_eq_true rfl) (k_next (d + 2) hsz (show s.1 ≤ 80 by omega)) ?_
  unfold cCond
  have hl : ∀ ch : Int32, ¬ ch = Int32.ofInt (-1) → nxt tx sz s.1 = ch → s.1 + 1 ≤ sz := fun ch h1 h2 => nxt_lt h1 h2
  generalize nxt tx sz s.1 = z at *
  refine XGo.go 4 rfl ?_
  have at25 : ∀ {v : Option Value} {hend : XH}, XGo (d + 3) xm_X3_readCond (35, [some (.ref 79), some (.int (nI c)), some (.int (nI p)), some (.int z)], [], RS h tx sz k (s.1 + 1, s.2)) v hend → XGo (d + 3) xm_X3_readCond (25, [some (.ref 79), some (.int (nI c)), some (.int (nI p)), some (.int z)], [], RS h tx sz k s) v hend := fun g => by
    refine XGo.go 5 rfl ?_
    refine XGo.putf rfl (rfl : (RH h tx sz s.1 k s.2.1 s.2.2).2.2 79 = _) (Nat.le_of_ble_eq_true rfl) (by decide) (Nat.le_of_ble_eq_true rfl) rfl rfl ?_
    show XGo _ _ (_, _, [], xup (RH h tx sz s.1 k s.2.1 s.2.2) 79 (.inl (3, [.ref 80, .ref 83, .int (nI sz), .int (nI s.1 + Int32.ofInt 1)]))) _ _
    rw [show nI s.1 + Int32.ofInt 1 = nI (s.1 + 1) from nI_1 s.1, RH.place]
    exact g
  by_cases e1 : z = (Int8.ofInt 97).toInt32
  · have lz := hl _ (by decide) e1
    have n119 : ¬ z = (Int8.ofInt 119).toInt32 := by rw [e1]; decide
    rw [if_pos e1, if_neg n119, if_pos e1]
    refine at25 ?_
    refine XGo.go 3 rfl ?_
    refine XGo.ifn n119 ?_
    refine XGo.go 7 rfl ?_
    refine XGo.ifp e1 ?_
    refine XGo.go 1 rfl ?_
    refine XGo.call _ rfl xm_X3_readNumber rfl rfl [.ref 79] [.int z, .int (nI p), .int (nI c), .ref 79] rfl rfl (fun _ => ⟨79, _, rfl, rfl, by decide, Nat.le_of_ble_eq_true rfl⟩) (Nat.le_of_ble_eq_true rfl) (k_number d hsz lz) ?_
    refine XGo.go 1 rfl ?_
    refine XGo.call _ rfl xm_X3_readPart rfl rfl [.ref 79, .int (nI c), .int (nI p), .int z, .int (nmv tx sz (s.1 + 1))] [] rfl rfl (fun _ => ⟨79, _, rfl, rfl, by decide, Nat.le_of_ble_eq_true rfl⟩) (Nat.le_of_ble_eq_true rfl) (k_part (s := (nmp tx sz (s.1 + 1), s.2)) d hc hp _ _) ?_
    exact XGo.iret _ rfl rfl .boolean rfl (nb01 _)
  · rw [if_neg e1]
    refine XGo.go 3 rfl ?_
    by_cases e2 : z = (Int8.ofInt 119).toInt32
    · have lz := hl _ (by decide) e2
      rw [if_pos e2, if_pos e2]
      refine at25 ?_
      refine XGo.go 3 rfl ?_
      refine XGo.ifp e2 ?_
      refine XGo.go 5 rfl ?_
      refine XGo.call _ rfl xm_X3_readPart rfl rfl [.ref 79, .int (nI c), .int (nI p), .int z, .int (Int32.ofInt 0)] [] rfl rfl (fun _ => ⟨79, _, rfl, rfl, by decide, Nat.le_of_ble_eq_true rfl⟩) (Nat.le_of_ble_eq_true rfl) (k_part (s := (s.1 + 1, s.2)) d hc hp _ _) ?_
      exact XGo.iret _ rfl rfl .boolean rfl (nb01 _)
    · rw [if_neg e2, if_neg e2, if_neg e1]
      refine XGo.go 3 rfl ?_
      by_cases e3 : z = (Int8.ofInt 100).toInt32
      · have lz := hl _ (by decide) e3
        rw [if_pos e3, if_pos e3]
        refine at25 ?_
        refine XGo.go 3 rfl ?_
        refine XGo.ifn e2 ?_
        refine XGo.go 7 rfl ?_
        refine XGo.ifn e1 ?_
        refine XGo.go 2 rfl ?_
        refine XGo.call _ rfl xm_X3_readDigit rfl rfl [.ref 79, .int (Int32.ofInt 3)] [.int z, .int (nI p), .int (nI c), .ref 79] rfl rfl (fun _ => ⟨79, _, rfl, rfl, by decide, Nat.le_of_ble_eq_true rfl⟩) (Nat.le_of_ble_eq_true rfl) (k_digit (d + 1) hsz (by omega)) ?_
        refine XGo.call _ rfl xm_X3_readPart rfl rfl [.ref 79, .int (nI c), .int (nI p), .int z, .int (dgt tx sz (s.1 + 1) (Int32.ofInt 3))] [] rfl rfl (fun _ => ⟨79, _, rfl, rfl, by decide, Nat.le_of_ble_eq_true rfl⟩) (Nat.le_of_ble_eq_true rfl) (k_part (s := (dgp tx sz (s.1 + 1) (Int32.ofInt 3), s.2)) d hc hp _ _) ?_
        exact XGo.iret _ rfl rfl .boolean rfl (nb01 _)
      · rw [if_neg e3, if_neg e3]
        refine XGo.go 1 rfl ?_
        exact XGo.iret _ rfl rfl .boolean rfl rfl
end RD
/-! the constants' length and characters -/
abbrev bOf (w : Nat) (i : Nat) : Int32 := (xsb (w - 2)).getD i 0
/-- the read-only places of the constants -/
def SB (H : XH) : Prop := H.1 = 549 ∧ ∀ w, 2 ≤ w → w < 7 → H.2.2 w = .inl (98, []) ∧ H.2.2 (w + 5) = .inr (.inl (4, 4, bOf w))
section ST
variable {d : Nat} {H : XH} {w : Nat}
theorem XGo.sf {M : XMeth} {pc len b wd idx : Nat} {L : XL} {st : List Value} {h1 : XH} {v : Option Value} (hm : xfind (xmT M) pc = some (pc, .getfield idx, len, 98, b, wd)) (hw : 2 ≤ w ∧ w < 7) (g : XGo d M (pc + 3, L, (if b = 0 then .ref (w + 5) else .int 0) :: st, H) v h1) : XGo d M (pc, L, .ref w :: st, H) v h1 := by
  refine XGo.st _ hm (o := (pc + 3, L, (if b = 0 then .ref (w + 5) else .int 0) :: st)) ?_ g
  show (match xsf w b with
    | some v => some (pc + 3, L, v :: st)
    | none => none) = some (pc + 3, L, (if b = 0 then Value.ref (w + 5) else .int 0) :: st)
  unfold xsf
  rw [if_pos hw]
  by_cases e : b = 0
  · rw [if_pos e, if_pos e]
  · rw [if_neg e, if_neg e]
theorem XGo.bal {M : XMeth} {pc len a b wd k : Nat} {i x : Int32} {L : XL} {st : List Value} {h1 : XH} {v : Option Value} (hm : xfind (xmT M) pc = some (pc, .baload, len, a, b, wd)) (hx : xia H 1 k i = none) (hy : xib H k i = some x) (g : XGo d M (pc + 1, L, .int x :: st, H) v h1) : XGo d M (pc, L, .int i :: .ref k :: st, H) v h1 := by
  refine XGo.st _ hm (o := (pc + 1, L, .int x :: st)) ?_ g
  show (match xia H 1 k i with
      | some v => some (pc + 1, L, .int v :: st)
      | none => match xib H k i with
        | some v => some (pc + 1, L, .int v :: st)
        | none => none) = some (pc + 1, L, .int x :: st)
  rw [hx, hy]
theorem sb_rc {n : Nat} (hS : SB H) (hw : 2 ≤ w ∧ w < 7) {M : XMeth} (hM : xmC M = 98) {as : List Value} (ha : as.head? = some (.ref w)) : xrecv M as H := fun _ => ⟨w, [], ha, by rw [hM]; exact (hS.2 w hw.1 hw.2).1, hw.1, by have := hS.1; omega⟩
theorem k_coder (hw : 2 ≤ w ∧ w < 7) : XCall xM (d + 1) 187 [.ref w] H (some (.int 0)) H := by
  refine XCall.of (M := xm_J0_coder_7d493) rfl (Nat.le_of_ble_eq_true rfl) ?_
  refine XGo.go 1 rfl ?_
  show XGo _ _ (3, _, [.int 1], _) _ _
  refine XGo.go 1 rfl ?_
  refine XGo.ifn (by decide) ?_
  refine XGo.go 1 rfl ?_
  refine XGo.sf rfl hw ?_
  refine XGo.go 1 rfl ?_
  exact XGo.iret _ rfl rfl .byte rfl rfl
theorem k_latin (hw : 2 ≤ w ∧ w < 7) : XCall xM (d + 1) 188 [.ref w] H (some (.int 1)) H := by
  refine XCall.of (M := xm_J0_isLatin1_aae02) rfl (Nat.le_of_ble_eq_true rfl) ?_
  refine XGo.go 1 rfl ?_
  show XGo _ _ (3, _, [.int 1], _) _ _
  refine XGo.go 1 rfl ?_
  refine XGo.ifn (by decide) ?_
  refine XGo.go 1 rfl ?_
  refine XGo.sf rfl hw ?_
  refine XGo.go 1 rfl ?_
  refine XGo.ifp rfl ?_
  refine XGo.go 2 rfl ?_
  exact XGo.iret _ rfl rfl .boolean rfl rfl
theorem sb_len (hS : SB H) (hw : 2 ≤ w ∧ w < 7) : xlen H (w + 5) = some 4 := by
  have hN := hS.1
  unfold xlen
  rw [(hS.2 w hw.1 hw.2).2]
  dsimp only
  rw [if_pos (show w + 5 < H.1 by omega), if_pos (Or.inr ⟨rfl, by omega⟩)]
theorem k_len (hS : SB H) (hw : 2 ≤ w ∧ w < 7) : XCall xM (d + 2) 185 [.ref w] H (some (.int (nI 4))) H := by
  refine XCall.of (M := xm_J0_length_8abf5) rfl (Nat.le_of_ble_eq_true rfl) ?_
  refine XGo.go 1 rfl ?_
  refine XGo.sf rfl hw ?_
  refine XGo.alen rfl (sb_len hS hw) ?_
  refine XGo.go 1 rfl ?_
  refine XGo.call _ rfl xm_J0_coder_7d493 rfl rfl [.ref w] [.int (nI 4)] rfl rfl (sb_rc (n := 0) hS hw rfl rfl) (Nat.le_of_ble_eq_true rfl) (k_coder hw) ?_
  refine XGo.go 1 rfl ?_
  exact XGo.iret _ rfl rfl .int rfl rfl
theorem k_chk0 {i : Nat} (hi : i < 4) {x : Value} (hx : x = .null ∨ x = .ref 12) : XCall xM (d + 1) 191 [.int (nI i), .int (nI 4), x] H (some (.int (nI i))) H := by
  have key : ∀ x : Value, XGo d xm_J3_checkIndex_8e157 (0, [some (.int (nI i)), some (.int (nI 4)), some x], [], H) (some (.int (nI i))) H := fun x => by
    refine XGo.go 2 rfl ?_
    refine XGo.ifn (xnI_lt0 (by omega)) ?_
    refine XGo.go 3 rfl ?_
    refine XGo.ifp (Int32.not_le.mp fun q => absurd ((xnI_ge (m := 4) (by decide) (by omega)).mp q) (by omega)) ?_
    refine XGo.go 1 rfl ?_
    exact XGo.iret _ rfl rfl .int rfl rfl
  rcases hx with rfl | rfl
  · exact XCall.of (M := xm_J3_checkIndex_8e157) rfl (Nat.le_of_ble_eq_true rfl) (key _)
  · exact XCall.of (M := xm_J3_checkIndex_8e157) rfl (Nat.le_of_ble_eq_true rfl) (key _)
theorem xsv2 (H : XH) : xsv H 2 = .null ∨ xsv H 2 = .ref 12 := by
  unfold xsv
  rw [if_neg (by decide), if_neg (by decide)]
  split
  · exact Or.inr rfl
  · exact Or.inl rfl
theorem k_chk {i : Nat} (hi : i < 4) : XCall xM (d + 2) 189 [.int (nI i), .int (nI 4)] H none H := by
  refine XCall.of (M := xm_J0_checkIndex_df160) rfl (Nat.le_of_ble_eq_true rfl) ?_
  refine XGo.go 2 rfl ?_
  refine XGo.st _ rfl (o := (5, [some (.int (nI i)), some (.int (nI 4))], [xsv H 2, .int (nI 4), .int (nI i)])) rfl ?_
  refine XGo.call _ rfl xm_J3_checkIndex_8e157 rfl rfl [.int (nI i), .int (nI 4), xsv H 2] [] rfl rfl (fun z => absurd rfl z) (Nat.le_of_ble_eq_true rfl) (k_chk0 hi (xsv2 H)) ?_
  refine XGo.go 1 rfl ?_
  exact XGo.vret _ rfl rfl rfl
theorem byte_ok : ∀ w : Fin 5, ∀ i : Fin 4, (((xsb w.val).getD i.val 0 &&& (Int16.ofInt 255).toInt32).toUInt32 % 65536).toInt32 = (xsb w.val).getD i.val 0 ∧ narrow .char (.int ((xsb w.val).getD i.val 0)) = .int ((xsb w.val).getD i.val 0) := by decide +kernel
theorem k_chr1 (hS : SB H) (hw : 2 ≤ w ∧ w < 7) {i : Nat} (hi : i < 4) : XCall xM (d + 3) 190 [.ref (w + 5), .int (nI i)] H (some (.int (bOf w i))) H := by
  have hN := hS.1
  have hb := (hS.2 w hw.1 hw.2).2
  obtain ⟨e1, e2⟩ := byte_ok ⟨w - 2, by omega⟩ ⟨i, hi⟩
  refine XCall.of (M := xm_J1_charAt_3b067) rfl (Nat.le_of_ble_eq_true rfl) ?_
  refine XGo.go 2 rfl ?_
  refine XGo.alen rfl (sb_len hS hw) ?_
  refine XGo.call _ rfl xm_J0_checkIndex_df160 rfl rfl [.int (nI i), .int (nI 4)] [] rfl rfl (fun z => absurd rfl z) (Nat.le_of_ble_eq_true rfl) (k_chk hi) ?_
  refine XGo.go 2 rfl ?_
  refine XGo.bal rfl (x := bOf w i) ?_ ?_ ?_
  · unfold xia
    rw [hb]
    dsimp only
    rw [if_neg (fun q => absurd q.2.1 (by decide))]
  · unfold xib
    rw [hb]
    dsimp only
    rw [if_pos ⟨by omega, by omega, rfl, ca_nI hi (by decide)⟩, xnI_nat (by omega)]
  refine XGo.go 3 rfl ?_
  show XGo _ _ (14, _, [.int (((bOf w i) &&& (Int16.ofInt 255).toInt32).toUInt32 % 65536).toInt32], _) _ _
  rw [show (((bOf w i) &&& (Int16.ofInt 255).toInt32).toUInt32 % 65536).toInt32 = bOf w i from e1]
  exact XGo.iret _ rfl rfl .char rfl e2
theorem k_chr (hS : SB H) (hw : 2 ≤ w ∧ w < 7) {i : Nat} (hi : i < 4) : XCall xM (d + 4) 186 [.ref w, .int (nI i)] H (some (.int (bOf w i))) H := by
  obtain ⟨e1, e2⟩ := byte_ok ⟨w - 2, by omega⟩ ⟨i, hi⟩
  refine XCall.of (M := xm_J0_charAt_5068e) rfl (Nat.le_of_ble_eq_true rfl) ?_
  refine XGo.go 1 rfl ?_
  refine XGo.call _ rfl xm_J0_isLatin1_aae02 rfl rfl [.ref w] [] rfl rfl (sb_rc (n := 0) hS hw rfl rfl) (Nat.le_of_ble_eq_true rfl) (k_latin hw) ?_
  refine XGo.go 1 rfl ?_
  refine XGo.ifn (by decide) ?_
  refine XGo.go 1 rfl ?_
  refine XGo.sf rfl hw ?_
  refine XGo.go 1 rfl ?_
  refine XGo.call _ rfl xm_J1_charAt_3b067 rfl rfl [.ref (w + 5), .int (nI i)] [] rfl rfl (fun z => absurd rfl z) (Nat.le_of_ble_eq_true rfl) (k_chr1 hS hw hi) ?_
  exact XGo.iret _ rfl rfl .char rfl e2
end ST
/-! the class's Reader: words and clauses -/
def cWord (tx : Nat → Int32) (sz w : Nat) : Nat → PS → Bool × PS
  | 0, s => (true, s)
  | q + 1, s => andc (cTake tx sz (bOf w (3 - q)) s) (cWord tx sz w q)
def cWho (tx : Nat → Int32) (sz c : Nat) (s : PS) : Bool × PS :=
  if nxt tx sz s.1 = (Int8.ofInt 112).toInt32 ∨ nxt tx sz s.1 = (Int8.ofInt 102).toInt32 ∨ nxt tx sz s.1 = (Int8.ofInt 99).toInt32 then cPart (4 * c + 1) (nxt tx sz s.1) (dgt tx sz (s.1 + 1) (Int8.ofInt 7).toInt32) (dgp tx sz (s.1 + 1) (Int8.ofInt 7).toInt32, s.2) else (false, s)
def cTerm (tx : Nat → Int32) (sz c : Nat) (s : PS) : Bool × PS :=
  if nxt tx sz s.1 = (Int8.ofInt 108).toInt32 then andc (cWord tx sz 2 4 s) (cPart (4 * c + 2) (nxt tx sz s.1) (Int32.ofInt 0))
  else if nxt tx sz s.1 = (Int8.ofInt 101).toInt32 then andc (cWord tx sz 3 4 s) (cPart (4 * c + 2) (nxt tx sz s.1) (Int32.ofInt 0))
  else andc (cPart (4 * c + 2) (Int8.ofInt 121).toInt32 (nmv tx sz s.1) (nmp tx sz s.1, s.2)) (cTake tx sz (Int8.ofInt 121).toInt32)
def cShift (tx : Nat → Int32) (sz c : Nat) (s : PS) : Bool × PS := if 0 < c ∧ (cTake tx sz (Int8.ofInt 62).toInt32 s).1 = true then andc (cCond tx sz (4 * c + 0) (cTake tx sz (Int8.ofInt 62).toInt32 s).2) (cTake tx sz (Int8.ofInt 58).toInt32) else (true, s)
def cIf (tx : Nat → Int32) (sz c : Nat) (s : PS) : Bool × PS := if (cTake tx sz (Int8.ofInt 32).toInt32 s).1 = true then andc (andc (andc (cTake tx sz (Int8.ofInt 105).toInt32 (cTake tx sz (Int8.ofInt 32).toInt32 s).2) (cTake tx sz (Int8.ofInt 102).toInt32)) (cTake tx sz (Int8.ofInt 32).toInt32)) (cCond tx sz (4 * c + 3)) else (true, s)
def cClause (tx : Nat → Int32) (sz c : Nat) (s : PS) : Bool × PS := andc (andc (andc (andc (cShift tx sz c s) (cWho tx sz c)) (cTake tx sz (Int8.ofInt 32).toInt32)) (cTerm tx sz c)) (cIf tx sz c)
/-- the constants stand -/
def SB0 (h : XH) : Prop := ∀ w, 2 ≤ w → w < 7 → h.2.2 w = .inl (98, []) ∧ h.2.2 (w + 5) = .inr (.inl (4, 4, bOf w))
section RD
variable {h : XH} {tx : Nat → Int32} {sz : Nat} {k : Int32} {s : PS}
theorem rs_lo {j : Nat} (hj : j < 79) : (RS h tx sz k s).2.2 j = h.2.2 j := by
  show (if j = 79 then _ else if j = 80 then _ else if j = 81 then _ else if j = 82 then _ else if j = 83 then _ else h.2.2 j) = _
  rw [if_neg (by omega), if_neg (by omega), if_neg (by omega), if_neg (by omega), if_neg (by omega)]
theorem sb_rs (hB : SB0 h) : SB (RS h tx sz k s) := ⟨rfl, fun w h1 h2 => by
  rw [rs_lo (by omega), rs_lo (by omega)]
  exact hB w h1 h2⟩
theorem rr79 {M : XMeth} (hM : xmC M = 3) {as : List Value} (ha : as.head? = some (.ref 79)) : xrecv M as (RS h tx sz k s) := fun _ => ⟨79, _, ha, by rw [hM]; rfl, by decide, Nat.le_of_ble_eq_true rfl⟩
theorem andc_le {r : Bool × PS} {f : PS → Bool × PS} (h1 : r.2.1 ≤ sz) (h2 : ∀ t : PS, t.1 ≤ sz → (f t).2.1 ≤ sz) : (andc r f).2.1 ≤ sz := by
  unfold andc
  split
  · exact h2 _ h1
  · exact h1
theorem b_ch : ∀ w : Fin 7, ∀ i : Fin 4, ¬ bOf w.val i.val = Int32.ofInt (-1) := by decide +kernel
theorem cWord_le {w : Nat} (hw : w < 7) : ∀ (q : Nat) (s : PS), q ≤ 4 → s.1 ≤ sz → (cWord tx sz w q s).2.1 ≤ sz
  | 0, s, _, hs => hs
  | q + 1, s, hq, hs => andc_le (cTake_le (b_ch ⟨w, hw⟩ ⟨3 - q, by omega⟩) hs) fun t ht => cWord_le hw q t (by omega) ht
theorem cWho_le {c : Nat} (hs : s.1 ≤ sz) : (cWho tx sz c s).2.1 ≤ sz := by
  unfold cWho
  split
  · rename_i e
    have : s.1 < sz := by rcases e with e | e | e <;> exact nxt_lt (by decide) e
    exact dgp_le (by omega)
  · exact hs
theorem cTerm_le {c : Nat} (hs : s.1 ≤ sz) : (cTerm tx sz c s).2.1 ≤ sz := by
  unfold cTerm
  split
  · exact andc_le (cWord_le (by decide) 4 s (by decide) hs) fun t ht => ht
  · split
    · exact andc_le (cWord_le (by decide) 4 s (by decide) hs) fun t ht => ht
    · exact andc_le (nmp_le hs) fun t ht => cTake_le (by decide) ht
theorem cShift_le {c : Nat} (hs : s.1 ≤ sz) : (cShift tx sz c s).2.1 ≤ sz := by
  unfold cShift
  split
  · exact andc_le (cCond_le (cTake_le (by decide) hs)) fun t ht => cTake_le (by decide) ht
  · exact hs
theorem cIf_le {c : Nat} (hs : s.1 ≤ sz) : (cIf tx sz c s).2.1 ≤ sz := by
  unfold cIf
  split
  · exact andc_le (andc_le (andc_le (cTake_le (by decide) (cTake_le (by decide) hs)) fun t ht => cTake_le (by decide) ht) fun t ht => cTake_le (by decide) ht) fun t ht => cCond_le ht
  · exact hs
set_option maxRecDepth 100000 in
theorem word_l (d : Nat) (hB : SB0 h) (hsz : sz ≤ 80) {w : Nat} (hw : 2 ≤ w ∧ w < 7) : ∀ (q i : Nat) (s : PS), i + q = 4 → s.1 ≤ sz → XGo (d + 4) xm_X3_readWord (2, [some (.ref 79), some (.ref w), some (.int (nI i))], [], RS h tx sz k s) (some (.int (b01 (cWord tx sz w q s).1))) (RS h tx sz k (cWord tx sz w q s).2)
  | q, i, s, hi, hs => by
    have head : ∀ {v : Option Value} {hend : XH}, XGo (d + 4) xm_X3_readWord (if nI 4 ≤ nI i then 30 else 10, [some (.ref 79), some (.ref w), some (.int (nI i))], [], RS h tx sz k s) v hend → XGo (d + 4) xm_X3_readWord (2, [some (.ref 79), some (.ref w), some (.int (nI i))], [], RS h tx sz k s) v hend := fun g => by
      refine XGo.go 2 rfl ?_
      refine XGo.call _ rfl xm_J0_length_8abf5 rfl rfl [.ref w] [.int (nI i)] rfl rfl (sb_rc (n := 0) (sb_rs hB) hw rfl rfl) (Nat.le_of_ble_eq_true rfl) (k_len (d := d + 2) (sb_rs hB) hw) ?_
      exact XGo.go 1 rfl g
    match q, hi with
    | 0, hi =>
      have hi : i = 4 := by omega
      subst hi
      refine head (XGo.ifp (Int32.le_refl _) ?_)
      refine XGo.go 1 rfl ?_
      exact XGo.iret _ rfl rfl .boolean rfl rfl
    | q + 1, hi =>
      have hi4 : i < 4 := by omega
      have e3 : 3 - q = i := by omega
      refine head (XGo.ifn (fun z => absurd ((xnI_ge (by decide) (by omega)).mp z) (by omega)) ?_)
      refine XGo.go 3 rfl ?_
      refine XGo.call _ rfl xm_J0_charAt_5068e rfl rfl [.ref w, .int (nI i)] [.ref 79] rfl rfl (sb_rc (n := 0) (sb_rs hB) hw rfl rfl) (Nat.le_of_ble_eq_true rfl) (k_chr (d := d) (sb_rs hB) hw hi4) ?_
      refine XGo.call _ rfl xm_X3_take rfl rfl [.ref 79, .int (bOf w i)] [] rfl rfl (rr79 rfl rfl) (Nat.le_of_ble_eq_true rfl) (k_takes (d + 2) hsz hs) ?_
      unfold cWord
      rw [e3]
      by_cases e : (cTake tx sz (bOf w i) s).1 = true
      · rw [andc_t e, e]
        refine XGo.go 1 rfl ?_
        refine XGo.ifn (by decide) ?_
        refine XGo.go 2 rfl ?_
        show XGo _ _ (2, [some (.ref 79), some (.ref w), some (.int (nI i + Int32.ofInt 1))], [], _) _ _
        rw [show nI i + Int32.ofInt 1 = nI (i + 1) from nI_1 i]
        exact word_l d hB hsz hw q (i + 1) _ (by omega) (cTake_le (b_ch ⟨w, hw.2⟩ ⟨i, hi4⟩) hs)
      · rw [andc_f e, Bool.eq_false_iff.mpr e]
        refine XGo.go 1 rfl ?_
        refine XGo.ifp rfl ?_
        refine XGo.go 1 rfl ?_
        exact XGo.iret _ rfl rfl .boolean rfl rfl
  termination_by q => q
theorem k_word (d : Nat) (hB : SB0 h) (hsz : sz ≤ 80) {w : Nat} (hw : 2 ≤ w ∧ w < 7) (hs : s.1 ≤ sz) : XCall xM (d + 5) 37 [.ref 79, .ref w] (RS h tx sz k s) (some (.int (b01 (cWord tx sz w 4 s).1))) (RS h tx sz k (cWord tx sz w 4 s).2) :=
  XCall.of (M := xm_X3_readWord) rfl (Nat.le_of_ble_eq_true rfl) (XGo.go 2 rfl (word_l d hB hsz hw 4 0 s rfl hs))
set_option maxRecDepth 100000 in
theorem k_who (d : Nat) (hsz : sz ≤ 80) (hs : s.1 ≤ sz) {c : Nat} (hc : c < 6) : XCall xM (d + 4) 33 [.ref 79, .int (nI c)] (RS h tx sz k s) (some (.int (b01 (cWho tx sz c s).1))) (RS h tx sz k (cWho tx sz c s).2) := by
  refine XCall.of (M := xm_X3_readWho) rfl (Nat.le_of_ble_eq_true rfl) ?_
  refine XGo.go 1 rfl ?_
  refine XGo.call _ rfl xm_X3_next rfl rfl [.ref 79] [] rfl rfl rc79 (Nat.le_of_ble_eq_true rfl) (k_next (d + 2) hsz (show s.1 ≤ 80 by omega)) ?_
  unfold cWho
  have hl : ∀ ch : Int32, ¬ ch = Int32.ofInt (-1) → nxt tx sz s.1 = ch → s.1 + 1 ≤ sz := fun ch h1 h2 => nxt_lt h1 h2
  generalize nxt tx sz s.1 = z at *
  refine XGo.go 4 rfl ?_
  have good : ∀ (hz : z = (Int8.ofInt 112).toInt32 ∨ z = (Int8.ofInt 102).toInt32 ∨ z = (Int8.ofInt 99).toInt32), XGo (d + 3) xm_X3_readWho (25, [some (.ref 79), some (.int (nI c)), some (.int z)], [], RS h tx sz k s) (some (.int (b01 (if z = (Int8.ofInt 112).toInt32 ∨ z = (Int8.ofInt 102).toInt32 ∨ z = (Int8.ofInt 99).toInt32 then cPart (4 * c + 1) z (dgt tx sz (s.1 + 1) (Int8.ofInt 7).toInt32) (dgp tx sz (s.1 + 1) (Int8.ofInt 7).toInt32, s.2) else (false, s)).1))) (RS h tx sz k (if z = (Int8.ofInt 112).toInt32 ∨ z = (Int8.ofInt 102).toInt32 ∨ z = (Int8.ofInt 99).toInt32 then cPart (4 * c + 1) z (dgt tx sz (s.1 + 1) (Int8.ofInt 7).toInt32) (dgp tx sz (s.1 + 1) (Int8.ofInt 7).toInt32, s.2) else (false, s)).2) := fun hz => by
    have lz : s.1 + 1 ≤ sz := by rcases hz with e | e | e <;> exact hl _ (by decide) e
    rw [if_pos hz]
    refine XGo.go 5 rfl ?_
    refine XGo.putf rfl (rfl : (RH h tx sz s.1 k s.2.1 s.2.2).2.2 79 = _) (Nat.le_of_ble_eq_true rfl) (by decide) (Nat.le_of_ble_eq_true rfl) rfl rfl ?_
    show XGo _ _ (_, _, [], xup (RH h tx sz s.1 k s.2.1 s.2.2) 79 (.inl (3, [.ref 80, .ref 83, .int (nI sz), .int (nI s.1 + Int32.ofInt 1)]))) _ _
    rw [show nI s.1 + Int32.ofInt 1 = nI (s.1 + 1) from nI_1 s.1, RH.place]
    refine XGo.go 6 rfl ?_
    refine XGo.call _ rfl xm_X3_readDigit rfl rfl [.ref 79, .int (Int8.ofInt 7).toInt32] [.int z, .int (nI 1), .int (nI c), .ref 79] rfl rfl (fun _ => ⟨79, _, rfl, rfl, by decide, Nat.le_of_ble_eq_true rfl⟩) (Nat.le_of_ble_eq_true rfl) (k_digit (d + 1) hsz (by omega)) ?_
    refine XGo.call _ rfl xm_X3_readPart rfl rfl [.ref 79, .int (nI c), .int (nI 1), .int z, .int (dgt tx sz (s.1 + 1) (Int8.ofInt 7).toInt32)] [] rfl rfl (fun _ => ⟨79, _, rfl, rfl, by decide, Nat.le_of_ble_eq_true rfl⟩) (Nat.le_of_ble_eq_true rfl) (k_part (s := (dgp tx sz (s.1 + 1) (Int8.ofInt 7).toInt32, s.2)) d hc (by decide) _ _) ?_
    exact XGo.iret _ rfl rfl .boolean rfl (nb01 _)
  by_cases e1 : z = (Int8.ofInt 112).toInt32
  · exact XGo.ifp e1 (good (Or.inl e1))
  · refine XGo.ifn e1 ?_
    refine XGo.go 3 rfl ?_
    by_cases e2 : z = (Int8.ofInt 102).toInt32
    · exact XGo.ifp e2 (good (Or.inr (Or.inl e2)))
    · refine XGo.ifn e2 ?_
      refine XGo.go 3 rfl ?_
      by_cases e3 : z = (Int8.ofInt 99).toInt32
      · exact XGo.ifp e3 (good (Or.inr (Or.inr e3)))
      · refine XGo.ifn e3 ?_
        rw [if_neg (fun q => q.elim e1 fun q => q.elim e2 e3)]
        refine XGo.go 1 rfl ?_
        exact XGo.iret _ rfl rfl .boolean rfl rfl
end RD
