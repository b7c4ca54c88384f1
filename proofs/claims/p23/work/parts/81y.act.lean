/-! act on both sides: what interests do -/
def hasV (kd nm x : Int32) : Int32 := if kd = Int32.ofInt 1 then x * Int32.ofInt 3 + nm else if kd = Int32.ofInt 5 then (x + nm) ^^^ nm else x + nm
def waiV (kd wh nm x : Int32) : Int32 := if unM kd (Int32.ofInt 2) = true then - (hasV kd nm x - wh) else if kd = (Int8.ofInt 6).toInt32 then hasV kd nm x - wh + wh else hasV kd nm x - wh
def endV (kd wh nm x : Int32) : Int32 := if unM kd (Int32.ofInt 3) = true then (waiV kd wh nm x * Int32.ofInt 2) ^^^ Int32.ofInt 5 else if kd = Int32.ofInt 4 then waiV kd wh nm (x - Int32.ofInt 1) * Int32.ofInt 2 + hasV kd nm (Int32.ofInt 2) else waiV kd wh nm x * Int32.ofInt 2
section AC
/-- the class's interest and trace, at hand -/
abbrev ACs (H : XH) (kd wh nm : Int32) : Prop := H.1 = 549 ∧ H.2.2 0 = .inr (.inl (0, 7, xab)) ∧ (∃ fw : List Value, H.2.2 14 = .inl (5, fw) ∧ fw.length = 15 ∧ (∃ r : Int32, fw[13]? = some (.int r)) ∧ fw[14]? = some (.ref 23)) ∧ (∃ tr : Nat → Int32, H.2.2 23 = .inr (.inl (0, 20, tr))) ∧ H.2.2 87 = .inl (2, [.int kd, .int wh, .int nm])
variable {kd wh nm : Int32}
set_option maxRecDepth 100000 in
theorem k_rb (d : Nat) {H : XH} (hA : ACs H kd wh nm) (b : Int32) : ∃ H1 : XH, XCall xM (d + 1) 60 [.ref 14, .int b] H none H1 ∧ ACs H1 kd wh nm := by
  obtain ⟨hN, h0, ⟨fw, o14, len, ⟨r, w13⟩, w14⟩, ⟨tr, o23⟩, o87⟩ := id hA
  -- the count goes up
  have fin : ∀ (A : XH), A.1 = 549 → A.2.2 0 = .inr (.inl (0, 7, xab)) → A.2.2 14 = .inl (5, fw) → (∃ tr : Nat → Int32, A.2.2 23 = .inr (.inl (0, 20, tr))) → A.2.2 87 = .inl (2, [.int kd, .int wh, .int nm]) → ∃ H1 : XH, XGo d xm_X5_ranBody (29, [some (.ref 14), some (.int b)], [], A) none H1 ∧ ACs H1 kd wh nm := fun A hN h0 o14 o23 o87 => by
    refine ⟨xup A 14 (.inl (5, fw.set 13 (.int (r + Int32.ofInt 1)))), ?_, hN, (xup_ne _ _ (by decide)).trans h0, ⟨_, xup_eq _ _ _, by rw [List.length_set]; exact len, ⟨_, by rw [List.getElem?_set_self (by omega)]⟩, by rw [List.getElem?_set_ne (by decide)]; exact w14⟩, ?_, (xup_ne _ _ (by decide)).trans o87⟩
    · refine XGo.go 2 rfl ?_
      refine XGo.getf rfl (xfd_o o14 (xlt hN (by decide)) (by decide) w13) ?_
      refine XGo.go 2 rfl ?_
      refine XGo.putf rfl o14 (xlt hN (by decide)) (by decide) (by omega) rfl rfl ?_
      exact XGo.vret _ rfl rfl rfl
    · obtain ⟨tr, o23⟩ := o23
      exact ⟨tr, (xup_ne _ _ (by decide)).trans o23⟩
  have head : ∀ {H1 : XH}, XGo d xm_X5_ranBody (if r < 0 then 29 else 7, [some (.ref 14), some (.int b)], [], H) none H1 → XCall xM (d + 1) 60 [.ref 14, .int b] H none H1 := fun {H1} k => by
    refine XCall.of (M := xm_X5_ranBody) rfl (Nat.le_of_ble_eq_true rfl) ?_
    refine XGo.go 1 rfl ?_
    refine XGo.getf rfl (xfd_o o14 (xlt hN (by decide)) (by decide) w13) ?_
    exact XGo.go 1 rfl k
  by_cases r0 : r < 0
  · obtain ⟨H1, c1, a1⟩ := fin H hN h0 o14 ⟨tr, o23⟩ o87
    exact ⟨H1, head (XGo.ifp r0 c1), a1⟩
  · have head2 : ∀ {H1 : XH}, XGo d xm_X5_ranBody (if Int32.ofNat 20 ≤ r then 29 else 19, [some (.ref 14), some (.int b)], [], H) none H1 → XCall xM (d + 1) 60 [.ref 14, .int b] H none H1 := fun {H1} k => by
      refine head (XGo.ifn r0 ?_)
      refine XGo.go 1 rfl ?_
      refine XGo.getf rfl (xfd_o o14 (xlt hN (by decide)) (by decide) w13) ?_
      refine XGo.go 1 rfl ?_
      refine XGo.getf rfl (xfd_o o14 (xlt hN (by decide)) (by decide) w14) ?_
      refine XGo.alen rfl (xlen_i o23 (xlt hN (by decide)) (by decide)) ?_
      exact XGo.go 1 rfl k
    by_cases r20 : Int32.ofNat 20 ≤ r
    · obtain ⟨H1, c1, a1⟩ := fin H hN h0 o14 ⟨tr, o23⟩ o87
      exact ⟨H1, head2 (XGo.ifp r20 c1), a1⟩
    · have b0 : ¬ r.toInt < 0 := fun q => r0 (lt0_iff.mpr q)
      have b20 : ¬ (20 : Int) ≤ r.toInt := fun q => r20 (Int32.le_iff_toInt_le.mpr (by rw [show (Int32.ofNat 20).toInt = 20 by decide]; exact q))
      obtain ⟨rn, rl⟩ := i32_nI (x := r) (hi := 19) (by omega) (by omega)
      have ci : ¬ (r < 0 ∨ 20 ≤ r.toNatClampNeg) := fun q => q.elim r0 (fun z => by omega)
      obtain ⟨H1, c1, a1⟩ := fin (xup H 23 (.inr (.inl (0, 20, upd tr r.toNatClampNeg b)))) hN ((xup_ne _ _ (by decide)).trans h0) ((xup_ne _ _ (by decide)).trans o14) ⟨_, xup_eq _ _ _⟩ ((xup_ne _ _ (by decide)).trans o87)
      refine ⟨H1, head2 (XGo.ifn r20 ?_), a1⟩
      refine XGo.go 1 rfl ?_
      refine XGo.getf rfl (xfd_o o14 (xlt hN (by decide)) (by decide) w14) ?_
      refine XGo.go 1 rfl ?_
      refine XGo.getf rfl (xfd_o o14 (xlt hN (by decide)) (by decide) w13) ?_
      refine XGo.go 1 rfl ?_
      exact XGo.iast rfl o23 (xlt hN (by decide)) (by decide) ci c1
theorem ac_r14 {H : XH} (hA : ACs H kd wh nm) {M : XMeth} (hM : xmC M = 5) {as : List Value} (ha : as.head? = some (.ref 14)) : xrecv M as H := by
  obtain ⟨hN, -, ⟨fw, o14, -⟩, -⟩ := hA
  exact fun _ => ⟨14, _, ha, by rw [hM]; exact o14, by decide, by omega⟩
theorem ac_r87 {H : XH} (hA : ACs H kd wh nm) {M : XMeth} (hM : xmC M = 2) {as : List Value} (ha : as.head? = some (.ref 87)) : xrecv M as H := by
  obtain ⟨hN, -, -, -, o87⟩ := hA
  exact fun _ => ⟨87, _, ha, by rw [hM]; exact o87, by decide, by omega⟩
theorem ac_f {H : XH} (hA : ACs H kd wh nm) {b : Nat} {v : Value} (hv : [Value.int kd, .int wh, .int nm][b]? = some v) : xfd H 87 2 b = some v ∧ 2 < 98 := by
  obtain ⟨hN, -, -, -, o87⟩ := hA
  exact xfd_o o87 (xlt hN (by decide)) (by decide) hv
set_option maxRecDepth 100000 in
theorem k_dH (d : Nat) {H : XH} (hA : ACs H kd wh nm) (x : Int32) : ∃ H1 : XH, XCall xM (d + 2) 25 [.ref 87, .ref 14, .int x] H (some (.int (hasV kd nm x))) H1 ∧ ACs H1 kd wh nm := by
  have head : ∀ {v : Option Value} {H1 : XH}, XGo (d + 1) xm_X2_doHas (if kd = Int32.ofInt 1 then 8 else 28, [some (.ref 87), some (.ref 14), some (.int x)], [], H) v H1 → XCall xM (d + 2) 25 [.ref 87, .ref 14, .int x] H v H1 := fun {v H1} k => by
    refine XCall.of (M := xm_X2_doHas) rfl (Nat.le_of_ble_eq_true rfl) ?_
    refine XGo.go 1 rfl ?_
    refine XGo.getf rfl (ac_f hA rfl) ?_
    exact XGo.go 2 rfl k
  unfold hasV
  by_cases k1 : kd = Int32.ofInt 1
  · rw [if_pos k1]
    obtain ⟨A, cA, aA⟩ := k_rb d hA (Int8.ofInt 11).toInt32
    obtain ⟨B, cB, aB⟩ := k_rb d aA (Int32.ofInt 1)
    refine ⟨B, head (XGo.ifp k1 ?_), aB⟩
    refine XGo.go 2 rfl ?_
    refine XGo.call _ rfl xm_X5_ranBody rfl rfl [.ref 14, .int (Int8.ofInt 11).toInt32] [] rfl rfl (ac_r14 hA rfl rfl) (Nat.le_of_ble_eq_true rfl) cA ?_
    refine XGo.go 2 rfl ?_
    refine XGo.call _ rfl xm_X5_ranBody rfl rfl [.ref 14, .int (Int32.ofInt 1)] [] rfl rfl (ac_r14 aA rfl rfl) (Nat.le_of_ble_eq_true rfl) cB ?_
    refine XGo.go 4 rfl ?_
    refine XGo.getf rfl (ac_f aB rfl) ?_
    refine XGo.go 1 rfl ?_
    exact XGo.iret _ rfl rfl .int rfl rfl
  · rw [if_neg k1]
    have head2 : ∀ {v : Option Value} {H1 : XH}, XGo (d + 1) xm_X2_doHas (if kd = Int32.ofInt 5 then 36 else 59, [some (.ref 87), some (.ref 14), some (.int x)], [], H) v H1 → XCall xM (d + 2) 25 [.ref 87, .ref 14, .int x] H v H1 := fun {v H1} k => by
      refine head (XGo.ifn k1 ?_)
      refine XGo.go 1 rfl ?_
      refine XGo.getf rfl (ac_f hA rfl) ?_
      exact XGo.go 2 rfl k
    by_cases k5 : kd = Int32.ofInt 5
    · rw [if_pos k5]
      obtain ⟨A, cA, aA⟩ := k_rb d hA (Int8.ofInt 51).toInt32
      obtain ⟨B, cB, aB⟩ := k_rb d aA (Int32.ofInt 1)
      refine ⟨B, head2 (XGo.ifp k5 ?_), aB⟩
      refine XGo.go 2 rfl ?_
      refine XGo.call _ rfl xm_X5_ranBody rfl rfl [.ref 14, .int (Int8.ofInt 51).toInt32] [] rfl rfl (ac_r14 hA rfl rfl) (Nat.le_of_ble_eq_true rfl) cA ?_
      refine XGo.go 2 rfl ?_
      refine XGo.call _ rfl xm_X5_ranBody rfl rfl [.ref 14, .int (Int32.ofInt 1)] [] rfl rfl (ac_r14 aA rfl rfl) (Nat.le_of_ble_eq_true rfl) cB ?_
      refine XGo.go 2 rfl ?_
      refine XGo.getf rfl (ac_f aB rfl) ?_
      refine XGo.go 2 rfl ?_
      refine XGo.getf rfl (ac_f aB rfl) ?_
      refine XGo.go 1 rfl ?_
      exact XGo.iret _ rfl rfl .int rfl rfl
    · rw [if_neg k5]
      obtain ⟨B, cB, aB⟩ := k_rb d hA (Int32.ofInt 1)
      refine ⟨B, head2 (XGo.ifn k5 ?_), aB⟩
      refine XGo.go 2 rfl ?_
      refine XGo.call _ rfl xm_X5_ranBody rfl rfl [.ref 14, .int (Int32.ofInt 1)] [] rfl rfl (ac_r14 hA rfl rfl) (Nat.le_of_ble_eq_true rfl) cB ?_
      refine XGo.go 2 rfl ?_
      refine XGo.getf rfl (ac_f aB rfl) ?_
      refine XGo.go 1 rfl ?_
      exact XGo.iret _ rfl rfl .int rfl rfl
set_option maxRecDepth 100000 in
theorem k_dWI (d : Nat) {H : XH} (hA : ACs H kd wh nm) (x : Int32) : ∃ H1 : XH, XCall xM (d + 3) 27 [.ref 87, .ref 14, .int x] H (some (.int (hasV kd nm x - wh))) H1 ∧ ACs H1 kd wh nm := by
  obtain ⟨A, cA, aA⟩ := k_rb (d + 1) hA (Int32.ofInt 2)
  obtain ⟨B, cB, aB⟩ := k_dH d aA x
  refine ⟨B, XCall.of (M := xm_X2_waitsOfInterest) rfl (Nat.le_of_ble_eq_true rfl) ?_, aB⟩
  refine XGo.go 2 rfl ?_
  refine XGo.call _ rfl xm_X5_ranBody rfl rfl [.ref 14, .int (Int32.ofInt 2)] [] rfl rfl (ac_r14 hA rfl rfl) (Nat.le_of_ble_eq_true rfl) cA ?_
  refine XGo.go 3 rfl ?_
  refine XGo.call _ rfl xm_X2_doHas rfl rfl [.ref 87, .ref 14, .int x] [] rfl rfl (ac_r87 aA rfl rfl) (Nat.le_of_ble_eq_true rfl) cB ?_
  refine XGo.go 1 rfl ?_
  refine XGo.getf rfl (ac_f aB rfl) ?_
  refine XGo.go 1 rfl ?_
  exact XGo.iret _ rfl rfl .int rfl rfl
set_option maxRecDepth 100000 in
theorem k_dW (d : Nat) {H : XH} {a : Nat} (hk : kd = nI a) (ha : 1 ≤ a ∧ a ≤ 6) (hA : ACs H kd wh nm) (x : Int32) : ∃ H1 : XH, XCall xM (d + 4) 26 [.ref 87, .ref 14, .int x] H (some (.int (waiV kd wh nm x))) H1 ∧ ACs H1 kd wh nm := by
  obtain ⟨hN, h0, -⟩ := id hA
  have u := k_unC (d + 1) hN h0 ha (b := 2) (by decide)
  rw [← hk] at u
  have head : ∀ {v : Option Value} {H1 : XH}, XGo (d + 3) xm_X2_doWaits (8, [some (.ref 87), some (.ref 14), some (.int x)], [.int (b01 (unM kd (nI 2)))], H) v H1 → XCall xM (d + 4) 26 [.ref 87, .ref 14, .int x] H v H1 := fun {v H1} k => by
    refine XCall.of (M := xm_X2_doWaits) rfl (Nat.le_of_ble_eq_true rfl) ?_
    refine XGo.go 1 rfl ?_
    refine XGo.getf rfl (ac_f hA rfl) ?_
    refine XGo.go 1 rfl ?_
    exact XGo.call _ rfl xm_X6_isUnder rfl rfl [.int kd, .int (nI 2)] [] rfl rfl (fun z => absurd rfl z) (Nat.le_of_ble_eq_true rfl) u k
  have e2 : nI 2 = Int32.ofInt 2 := by decide
  rw [e2] at head
  unfold waiV
  cases uu : unM kd (Int32.ofInt 2)
  · rw [if_neg (by decide)]
    rw [uu] at head
    have head2 : ∀ {v : Option Value} {H1 : XH}, XGo (d + 3) xm_X2_doWaits (if kd = (Int8.ofInt 6).toInt32 then 34 else 52, [some (.ref 87), some (.ref 14), some (.int x)], [], H) v H1 → XCall xM (d + 4) 26 [.ref 87, .ref 14, .int x] H v H1 := fun {v H1} k => by
      refine head ?_
      refine XGo.go 1 rfl ?_
      refine XGo.ifp rfl ?_
      refine XGo.go 1 rfl ?_
      refine XGo.getf rfl (ac_f hA rfl) ?_
      exact XGo.go 2 rfl k
    by_cases k6 : kd = (Int8.ofInt 6).toInt32
    · rw [if_pos k6]
      obtain ⟨A, cA, aA⟩ := k_rb (d + 2) hA (Int8.ofInt 61).toInt32
      obtain ⟨B, cB, aB⟩ := k_dWI d aA x
      refine ⟨B, head2 (XGo.ifp k6 ?_), aB⟩
      refine XGo.go 2 rfl ?_
      refine XGo.call _ rfl xm_X5_ranBody rfl rfl [.ref 14, .int (Int8.ofInt 61).toInt32] [] rfl rfl (ac_r14 hA rfl rfl) (Nat.le_of_ble_eq_true rfl) cA ?_
      refine XGo.go 3 rfl ?_
      refine XGo.call _ rfl xm_X2_waitsOfInterest rfl rfl [.ref 87, .ref 14, .int x] [] rfl rfl (ac_r87 aA rfl rfl) (Nat.le_of_ble_eq_true rfl) cB ?_
      refine XGo.go 1 rfl ?_
      refine XGo.getf rfl (ac_f aB rfl) ?_
      refine XGo.go 1 rfl ?_
      exact XGo.iret _ rfl rfl .int rfl rfl
    · rw [if_neg k6]
      obtain ⟨B, cB, aB⟩ := k_dWI d hA x
      refine ⟨B, head2 (XGo.ifn k6 ?_), aB⟩
      refine XGo.go 3 rfl ?_
      refine XGo.call _ rfl xm_X2_waitsOfInterest rfl rfl [.ref 87, .ref 14, .int x] [] rfl rfl (ac_r87 hA rfl rfl) (Nat.le_of_ble_eq_true rfl) cB ?_
      exact XGo.iret _ rfl rfl .int rfl rfl
  · rw [if_pos rfl]
    rw [uu] at head
    obtain ⟨A, cA, aA⟩ := k_rb (d + 2) hA (Int8.ofInt 21).toInt32
    obtain ⟨B, cB, aB⟩ := k_dWI d aA x
    refine ⟨B, head ?_, aB⟩
    refine XGo.go 1 rfl ?_
    refine XGo.ifn (by decide) ?_
    refine XGo.go 2 rfl ?_
    refine XGo.call _ rfl xm_X5_ranBody rfl rfl [.ref 14, .int (Int8.ofInt 21).toInt32] [] rfl rfl (ac_r14 hA rfl rfl) (Nat.le_of_ble_eq_true rfl) cA ?_
    refine XGo.go 3 rfl ?_
    refine XGo.call _ rfl xm_X2_waitsOfInterest rfl rfl [.ref 87, .ref 14, .int x] [] rfl rfl (ac_r87 aA rfl rfl) (Nat.le_of_ble_eq_true rfl) cB ?_
    refine XGo.go 1 rfl ?_
    exact XGo.iret _ rfl rfl .int rfl rfl
set_option maxRecDepth 100000 in
theorem k_dEI (d : Nat) {H : XH} {a : Nat} (hk : kd = nI a) (ha : 1 ≤ a ∧ a ≤ 6) (hA : ACs H kd wh nm) (x : Int32) : ∃ H1 : XH, XCall xM (d + 5) 29 [.ref 87, .ref 14, .int x] H (some (.int (waiV kd wh nm x * Int32.ofInt 2))) H1 ∧ ACs H1 kd wh nm := by
  obtain ⟨A, cA, aA⟩ := k_rb (d + 3) hA (Int32.ofInt 3)
  obtain ⟨B, cB, aB⟩ := k_dW d hk ha aA x
  refine ⟨B, XCall.of (M := xm_X2_endsOfInterest) rfl (Nat.le_of_ble_eq_true rfl) ?_, aB⟩
  refine XGo.go 2 rfl ?_
  refine XGo.call _ rfl xm_X5_ranBody rfl rfl [.ref 14, .int (Int32.ofInt 3)] [] rfl rfl (ac_r14 hA rfl rfl) (Nat.le_of_ble_eq_true rfl) cA ?_
  refine XGo.go 3 rfl ?_
  refine XGo.call _ rfl xm_X2_doWaits rfl rfl [.ref 87, .ref 14, .int x] [] rfl rfl (ac_r87 aA rfl rfl) (Nat.le_of_ble_eq_true rfl) cB ?_
  refine XGo.go 2 rfl ?_
  exact XGo.iret _ rfl rfl .int rfl rfl
set_option maxRecDepth 100000 in
theorem k_dE (d : Nat) {H : XH} {a : Nat} (hk : kd = nI a) (ha : 1 ≤ a ∧ a ≤ 6) (hA : ACs H kd wh nm) (x : Int32) : ∃ H1 : XH, XCall xM (d + 6) 28 [.ref 87, .ref 14, .int x] H (some (.int (endV kd wh nm x))) H1 ∧ ACs H1 kd wh nm := by
  obtain ⟨hN, h0, -⟩ := id hA
  have u := k_unC (d + 3) hN h0 ha (b := 3) (by decide)
  rw [← hk] at u
  have head : ∀ {v : Option Value} {H1 : XH}, XGo (d + 5) xm_X2_doEnds (8, [some (.ref 87), some (.ref 14), some (.int x), none], [.int (b01 (unM kd (nI 3)))], H) v H1 → XCall xM (d + 6) 28 [.ref 87, .ref 14, .int x] H v H1 := fun {v H1} k => by
    refine XCall.of (M := xm_X2_doEnds) rfl (Nat.le_of_ble_eq_true rfl) ?_
    refine XGo.go 1 rfl ?_
    refine XGo.getf rfl (ac_f hA rfl) ?_
    refine XGo.go 1 rfl ?_
    exact XGo.call _ rfl xm_X6_isUnder rfl rfl [.int kd, .int (nI 3)] [] rfl rfl (fun z => absurd rfl z) (Nat.le_of_ble_eq_true rfl) u k
  have e3 : nI 3 = Int32.ofInt 3 := by decide
  rw [e3] at head
  unfold endV
  cases uu : unM kd (Int32.ofInt 3)
  · rw [if_neg (by decide)]
    rw [uu] at head
    have head2 : ∀ {v : Option Value} {H1 : XH}, XGo (d + 5) xm_X2_doEnds (if kd = Int32.ofInt 4 then 34 else 58, [some (.ref 87), some (.ref 14), some (.int x), none], [], H) v H1 → XCall xM (d + 6) 28 [.ref 87, .ref 14, .int x] H v H1 := fun {v H1} k => by
      refine head ?_
      refine XGo.go 1 rfl ?_
      refine XGo.ifp rfl ?_
      refine XGo.go 1 rfl ?_
      refine XGo.getf rfl (ac_f hA rfl) ?_
      exact XGo.go 2 rfl k
    by_cases k4 : kd = Int32.ofInt 4
    · rw [if_pos k4]
      obtain ⟨A, cA, aA⟩ := k_rb (d + 4) hA (Int8.ofInt 41).toInt32
      obtain ⟨B, cB, aB⟩ := k_dEI d hk ha aA (x - Int32.ofInt 1)
      obtain ⟨C, cC, aC⟩ := k_dH (d + 3) aB (Int32.ofInt 2)
      refine ⟨C, head2 (XGo.ifp k4 ?_), aC⟩
      refine XGo.go 2 rfl ?_
      refine XGo.call _ rfl xm_X5_ranBody rfl rfl [.ref 14, .int (Int8.ofInt 41).toInt32] [] rfl rfl (ac_r14 hA rfl rfl) (Nat.le_of_ble_eq_true rfl) cA ?_
      refine XGo.go 5 rfl ?_
      refine XGo.call _ rfl xm_X2_endsOfInterest rfl rfl [.ref 87, .ref 14, .int (x - Int32.ofInt 1)] [] rfl rfl (ac_r87 aA rfl rfl) (Nat.le_of_ble_eq_true rfl) cB ?_
      refine XGo.go 5 rfl ?_
      refine XGo.call _ rfl xm_X2_doHas rfl rfl [.ref 87, .ref 14, .int (Int32.ofInt 2)] [.int (waiV kd wh nm (x - Int32.ofInt 1) * Int32.ofInt 2)] rfl rfl (ac_r87 aB rfl rfl) (Nat.le_of_ble_eq_true rfl) cC ?_
      refine XGo.go 1 rfl ?_
      exact XGo.iret _ rfl rfl .int rfl rfl
    · rw [if_neg k4]
      obtain ⟨B, cB, aB⟩ := k_dEI d hk ha hA x
      refine ⟨B, head2 (XGo.ifn k4 ?_), aB⟩
      refine XGo.go 3 rfl ?_
      refine XGo.call _ rfl xm_X2_endsOfInterest rfl rfl [.ref 87, .ref 14, .int x] [] rfl rfl (ac_r87 hA rfl rfl) (Nat.le_of_ble_eq_true rfl) cB ?_
      exact XGo.iret _ rfl rfl .int rfl rfl
  · rw [if_pos rfl]
    rw [uu] at head
    obtain ⟨A, cA, aA⟩ := k_rb (d + 4) hA (Int8.ofInt 31).toInt32
    obtain ⟨B, cB, aB⟩ := k_dEI d hk ha aA x
    refine ⟨B, head ?_, aB⟩
    refine XGo.go 1 rfl ?_
    refine XGo.ifn (by decide) ?_
    refine XGo.go 2 rfl ?_
    refine XGo.call _ rfl xm_X5_ranBody rfl rfl [.ref 14, .int (Int8.ofInt 31).toInt32] [] rfl rfl (ac_r14 hA rfl rfl) (Nat.le_of_ble_eq_true rfl) cA ?_
    refine XGo.go 3 rfl ?_
    refine XGo.call _ rfl xm_X2_endsOfInterest rfl rfl [.ref 87, .ref 14, .int x] [] rfl rfl (ac_r87 aA rfl rfl) (Nat.le_of_ble_eq_true rfl) cB ?_
    refine XGo.go 2 rfl ?_
    exact XGo.iret _ rfl rfl .int rfl rfl
end AC
/-! act on both sides: the model's side, and the answer -/
section AM
theorem mo21 {e : Nat → Int32} {x : Int32} : (mO e).set 21 (.int x) = mO (upd e 21 x) := rfl
theorem mo22 {e : Nat → Int32} {x : Int32} : (mO e).set 22 (.int x) = mO (upd e 22 x) := rfl
theorem mo23 {e : Nat → Int32} {x : Int32} : (mO e).set 23 (.int x) = mO (upd e 23 x) := rfl
theorem mo24 {e : Nat → Int32} {x : Int32} : (mO e).set 24 (.int x) = mO (upd e 24 x) := rfl
/-- the model's interest and trace, at hand -/
abbrev AMs (H : XH) (kd wh nm : Int32) (K : Nat) : Prop := H.1 = 549 ∧ (∃ e : Nat → Int32, H.2.2 536 = .inl (7, mO e) ∧ (∃ r : Nat, r ≤ K ∧ e 21 = nI r) ∧ e 22 = kd ∧ e 23 = nm ∧ e 24 = wh) ∧ ∃ bd : Nat → Int32, H.2.2 548 = .inr (.inl (0, 20, bd))
variable {kd wh nm : Int32}
theorem am_r {H : XH} {K : Nat} (hA : AMs H kd wh nm K) {M : XMeth} (hM : xmC M = 7) {as : List Value} (ha : as.head? = some (.ref 536)) : xrecv M as H := by
  obtain ⟨hN, ⟨e, o36, -⟩, -⟩ := hA
  exact fun _ => ⟨536, _, ha, by rw [hM]; exact o36, by decide, by omega⟩
theorem am_k {H : XH} {K : Nat} (hA : AMs H kd wh nm K) : xfd H 536 7 22 = some (.int kd) ∧ 7 < 98 := by
  obtain ⟨hN, ⟨e, o36, -, e22, -⟩, -⟩ := hA
  exact xfd_o o36 (xlt hN (by decide)) (by decide) (show some (Value.int (e 22)) = _ by rw [e22])
theorem am_n {H : XH} {K : Nat} (hA : AMs H kd wh nm K) : xfd H 536 7 23 = some (.int nm) ∧ 7 < 98 := by
  obtain ⟨hN, ⟨e, o36, -, -, e23, -⟩, -⟩ := hA
  exact xfd_o o36 (xlt hN (by decide)) (by decide) (show some (Value.int (e 23)) = _ by rw [e23])
theorem am_w {H : XH} {K : Nat} (hA : AMs H kd wh nm K) : xfd H 536 7 24 = some (.int wh) ∧ 7 < 98 := by
  obtain ⟨hN, ⟨e, o36, -, -, -, e24⟩, -⟩ := hA
  exact xfd_o o36 (xlt hN (by decide)) (by decide) (show some (Value.int (e 24)) = _ by rw [e24])
set_option maxRecDepth 100000 in
theorem k_run7 (d : Nat) {H : XH} {K : Nat} (hK : K < 1000) (hA : AMs H kd wh nm K) (b : Int32) : ∃ H1 : XH, XCall xM (d + 1) 168 [.ref 536, .int b] H none H1 ∧ AMs H1 kd wh nm (K + 1) := by
  obtain ⟨hN, ⟨e, o36, ⟨r, rK, e21⟩, e22, e23, e24⟩, ⟨bd, o48⟩⟩ := id hA
  have fin : ∀ (A : XH), A.1 = 549 → A.2.2 536 = .inl (7, mO e) → (∃ bd : Nat → Int32, A.2.2 548 = .inr (.inl (0, 20, bd))) → ∃ H1 : XH, XGo d xm_X7_runs (19, [some (.ref 536), some (.int b)], [], A) none H1 ∧ AMs H1 kd wh nm (K + 1) := fun A hN o36 o48 => by
    refine ⟨xup A 536 (.inl (7, mO (upd e 21 (nI (r + 1))))), ?_, hN, ⟨_, xup_eq _ _ _, ⟨r + 1, by omega, rfl⟩, e22, e23, e24⟩, ?_⟩
    · refine XGo.go 2 rfl ?_
      refine XGo.getf rfl (xfd_o o36 (xlt hN (by decide)) (by decide) rfl) ?_
      rw [e21]
      refine XGo.go 2 rfl ?_
      refine XGo.putf rfl o36 (xlt hN (by decide)) (by decide) (Nat.le_of_ble_eq_true rfl) rfl rfl ?_
      show XGo _ _ (29, _, [], xup A 536 (.inl (7, (mO e).set 21 (.int (nI r + Int32.ofInt 1))))) _ _
      rw [mo21, show nI r + Int32.ofInt 1 = nI (r + 1) from nI_1 r]
      exact XGo.vret _ rfl rfl rfl
    · obtain ⟨bd, o48⟩ := o48
      exact ⟨bd, (xup_ne _ _ (by decide)).trans o48⟩
  have head : ∀ {H1 : XH}, XGo d xm_X7_runs (if (Int8.ofInt 20).toInt32 ≤ nI r then 19 else 9, [some (.ref 536), some (.int b)], [], H) none H1 → XCall xM (d + 1) 168 [.ref 536, .int b] H none H1 := fun {H1} k => by
    refine XCall.of (M := xm_X7_runs) rfl (Nat.le_of_ble_eq_true rfl) ?_
    refine XGo.go 1 rfl ?_
    refine XGo.getf rfl (xfd_o o36 (xlt hN (by decide)) (by decide) rfl) ?_
    rw [e21]
    exact XGo.go 2 rfl k
  by_cases r20 : 20 ≤ r
  · obtain ⟨H1, c1, a1⟩ := fin H hN o36 ⟨bd, o48⟩
    exact ⟨H1, head (XGo.ifp ((xnI_ge (m := 20) (by decide) (by omega)).mpr r20) c1), a1⟩
  · obtain ⟨H1, c1, a1⟩ := fin (xup H 548 (.inr (.inl (0, 20, upd bd (nI r).toNatClampNeg b)))) hN ((xup_ne _ _ (by decide)).trans o36) ⟨_, xup_eq _ _ _⟩
    refine ⟨H1, head (XGo.ifn (fun z => r20 ((xnI_ge (m := 20) (by decide) (by omega)).mp z)) ?_), a1⟩
    refine XGo.go 1 rfl ?_
    refine XGo.getf rfl (xfd_o o36 (xlt hN (by decide)) (by decide) rfl) ?_
    refine XGo.go 1 rfl ?_
    refine XGo.getf rfl (xfd_o o36 (xlt hN (by decide)) (by decide) rfl) ?_
    rw [e21]
    refine XGo.go 1 rfl ?_
    exact XGo.iast rfl o48 (xlt hN (by decide)) (by decide) (ca_nI (by omega) (by decide)) c1
set_option maxRecDepth 100000 in
theorem k_pH7 (d : Nat) {H : XH} {K : Nat} (hK : K < 1000) (hA : AMs H kd wh nm K) (x : Int32) : ∃ H1 : XH, XCall xM (d + 2) 171 [.ref 536, .int x] H (some (.int (x + nm))) H1 ∧ AMs H1 kd wh nm (K + 1) := by
  obtain ⟨A, cA, aA⟩ := k_run7 d hK hA (Int32.ofInt 1)
  refine ⟨A, XCall.of (M := xm_X7_plainHas) rfl (Nat.le_of_ble_eq_true rfl) ?_, aA⟩
  refine XGo.go 2 rfl ?_
  refine XGo.call _ rfl xm_X7_runs rfl rfl [.ref 536, .int (Int32.ofInt 1)] [] rfl rfl (am_r hA rfl rfl) (Nat.le_of_ble_eq_true rfl) cA ?_
  refine XGo.go 2 rfl ?_
  refine XGo.getf rfl (am_n aA) ?_
  refine XGo.go 1 rfl ?_
  exact XGo.iret _ rfl rfl .int rfl rfl
theorem AMs.up {H : XH} {K K2 : Nat} (h : K ≤ K2) (hA : AMs H kd wh nm K) : AMs H kd wh nm K2 := by
  obtain ⟨hN, ⟨e, o36, ⟨r, rK, e21⟩, q⟩, o48⟩ := hA
  exact ⟨hN, ⟨e, o36, ⟨r, by omega, e21⟩, q⟩, o48⟩
set_option maxRecDepth 100000 in
theorem k_hA7 (d : Nat) {H : XH} {K : Nat} (hK : K + 1 < 1000) (hA : AMs H kd wh nm K) (x : Int32) : ∃ H1 : XH, XCall xM (d + 3) 172 [.ref 536, .int x] H (some (.int (hasV kd nm x))) H1 ∧ AMs H1 kd wh nm (K + 2) := by
  have head : ∀ {v : Option Value} {H1 : XH}, XGo (d + 2) xm_X7_hasActs (if kd = Int32.ofInt 1 then 8 else 22, [some (.ref 536), some (.int x)], [], H) v H1 → XCall xM (d + 3) 172 [.ref 536, .int x] H v H1 := fun {v H1} k => by
    refine XCall.of (M := xm_X7_hasActs) rfl (Nat.le_of_ble_eq_true rfl) ?_
    refine XGo.go 1 rfl ?_
    refine XGo.getf rfl (am_k hA) ?_
    exact XGo.go 2 rfl k
  unfold hasV
  by_cases k1 : kd = Int32.ofInt 1
  · rw [if_pos k1]
    obtain ⟨A, cA, aA⟩ := k_run7 (d + 1) (by omega) hA (Int8.ofInt 11).toInt32
    obtain ⟨B, cB, aB⟩ := k_pH7 d (by omega) aA (x * Int32.ofInt 3)
    refine ⟨B, head (XGo.ifp k1 ?_), aB⟩
    refine XGo.go 2 rfl ?_
    refine XGo.call _ rfl xm_X7_runs rfl rfl [.ref 536, .int (Int8.ofInt 11).toInt32] [] rfl rfl (am_r hA rfl rfl) (Nat.le_of_ble_eq_true rfl) cA ?_
    refine XGo.go 4 rfl ?_
    refine XGo.call _ rfl xm_X7_plainHas rfl rfl [.ref 536, .int (x * Int32.ofInt 3)] [] rfl rfl (am_r aA rfl rfl) (Nat.le_of_ble_eq_true rfl) cB ?_
    exact XGo.iret _ rfl rfl .int rfl rfl
  · rw [if_neg k1]
    have head2 : ∀ {v : Option Value} {H1 : XH}, XGo (d + 2) xm_X7_hasActs (if kd = Int32.ofInt 5 then 30 else 47, [some (.ref 536), some (.int x)], [], H) v H1 → XCall xM (d + 3) 172 [.ref 536, .int x] H v H1 := fun {v H1} k => by
      refine head (XGo.ifn k1 ?_)
      refine XGo.go 1 rfl ?_
      refine XGo.getf rfl (am_k hA) ?_
      exact XGo.go 2 rfl k
    by_cases k5 : kd = Int32.ofInt 5
    · rw [if_pos k5]
      obtain ⟨A, cA, aA⟩ := k_run7 (d + 1) (by omega) hA (Int8.ofInt 51).toInt32
      obtain ⟨B, cB, aB⟩ := k_pH7 d (by omega) aA x
      refine ⟨B, head2 (XGo.ifp k5 ?_), aB⟩
      refine XGo.go 2 rfl ?_
      refine XGo.call _ rfl xm_X7_runs rfl rfl [.ref 536, .int (Int8.ofInt 51).toInt32] [] rfl rfl (am_r hA rfl rfl) (Nat.le_of_ble_eq_true rfl) cA ?_
      refine XGo.go 2 rfl ?_
      refine XGo.call _ rfl xm_X7_plainHas rfl rfl [.ref 536, .int x] [] rfl rfl (am_r aA rfl rfl) (Nat.le_of_ble_eq_true rfl) cB ?_
      refine XGo.go 1 rfl ?_
      refine XGo.getf rfl (am_n aB) ?_
      refine XGo.go 1 rfl ?_
      exact XGo.iret _ rfl rfl .int rfl rfl
    · rw [if_neg k5]
      obtain ⟨B, cB, aB⟩ := k_pH7 d (by omega) hA x
      refine ⟨B, head2 (XGo.ifn k5 ?_), aB.up (by omega)⟩
      refine XGo.go 2 rfl ?_
      refine XGo.call _ rfl xm_X7_plainHas rfl rfl [.ref 536, .int x] [] rfl rfl (am_r hA rfl rfl) (Nat.le_of_ble_eq_true rfl) cB ?_
      exact XGo.iret _ rfl rfl .int rfl rfl
set_option maxRecDepth 100000 in
theorem k_pW7 (d : Nat) {H : XH} {K : Nat} (hK : K + 2 < 1000) (hA : AMs H kd wh nm K) (x : Int32) : ∃ H1 : XH, XCall xM (d + 4) 173 [.ref 536, .int x] H (some (.int (hasV kd nm x - wh))) H1 ∧ AMs H1 kd wh nm (K + 3) := by
  obtain ⟨A, cA, aA⟩ := k_run7 (d + 2) (by omega) hA (Int32.ofInt 2)
  obtain ⟨B, cB, aB⟩ := k_hA7 d (by omega) aA x
  refine ⟨B, XCall.of (M := xm_X7_plainWaits) rfl (Nat.le_of_ble_eq_true rfl) ?_, aB⟩
  refine XGo.go 2 rfl ?_
  refine XGo.call _ rfl xm_X7_runs rfl rfl [.ref 536, .int (Int32.ofInt 2)] [] rfl rfl (am_r hA rfl rfl) (Nat.le_of_ble_eq_true rfl) cA ?_
  refine XGo.go 2 rfl ?_
  refine XGo.call _ rfl xm_X7_hasActs rfl rfl [.ref 536, .int x] [] rfl rfl (am_r aA rfl rfl) (Nat.le_of_ble_eq_true rfl) cB ?_
  refine XGo.go 1 rfl ?_
  refine XGo.getf rfl (am_w aB) ?_
  refine XGo.go 1 rfl ?_
  exact XGo.iret _ rfl rfl .int rfl rfl
set_option maxRecDepth 100000 in
theorem k_wA7 (d : Nat) {H : XH} {K : Nat} (hK : K + 3 < 1000) (hA : AMs H kd wh nm K) (x : Int32) : ∃ H1 : XH, XCall xM (d + 5) 174 [.ref 536, .int x] H (some (.int (waiV kd wh nm x))) H1 ∧ AMs H1 kd wh nm (K + 4) := by
  have head : ∀ {v : Option Value} {H1 : XH}, XGo (d + 4) xm_X7_waitsActs (if kd = (Int8.ofInt 6).toInt32 then 9 else 26, [some (.ref 536), some (.int x)], [], H) v H1 → XCall xM (d + 5) 174 [.ref 536, .int x] H v H1 := fun {v H1} k => by
    refine XCall.of (M := xm_X7_waitsActs) rfl (Nat.le_of_ble_eq_true rfl) ?_
    refine XGo.go 1 rfl ?_
    refine XGo.getf rfl (am_k hA) ?_
    exact XGo.go 2 rfl k
  unfold waiV
  by_cases k6 : kd = (Int8.ofInt 6).toInt32
  · rw [show unM kd (Int32.ofInt 2) = false by rw [k6]; decide, if_neg (by decide), if_pos k6]
    obtain ⟨A, cA, aA⟩ := k_run7 (d + 3) (by omega) hA (Int8.ofInt 61).toInt32
    obtain ⟨B, cB, aB⟩ := k_pW7 d (by omega) aA x
    refine ⟨B, head (XGo.ifp k6 ?_), aB⟩
    refine XGo.go 2 rfl ?_
    refine XGo.call _ rfl xm_X7_runs rfl rfl [.ref 536, .int (Int8.ofInt 61).toInt32] [] rfl rfl (am_r hA rfl rfl) (Nat.le_of_ble_eq_true rfl) cA ?_
    refine XGo.go 2 rfl ?_
    refine XGo.call _ rfl xm_X7_plainWaits rfl rfl [.ref 536, .int x] [] rfl rfl (am_r aA rfl rfl) (Nat.le_of_ble_eq_true rfl) cB ?_
    refine XGo.go 1 rfl ?_
    refine XGo.getf rfl (am_w aB) ?_
    refine XGo.go 1 rfl ?_
    exact XGo.iret _ rfl rfl .int rfl rfl
  · have head2 : ∀ {v : Option Value} {H1 : XH}, XGo (d + 4) xm_X7_waitsActs (34, [some (.ref 536), some (.int x)], [.int (b01 (unM kd (Int32.ofInt 2)))], H) v H1 → XCall xM (d + 5) 174 [.ref 536, .int x] H v H1 := fun {v H1} k => by
      refine head (XGo.ifn k6 ?_)
      refine XGo.go 1 rfl ?_
      refine XGo.getf rfl (am_k hA) ?_
      refine XGo.go 1 rfl ?_
      exact XGo.call _ rfl xm_X7_isUnder rfl rfl [.int kd, .int (Int32.ofInt 2)] [] rfl rfl (fun z => absurd rfl z) (Nat.le_of_ble_eq_true rfl) (k_unM (d + 3) H _ _) k
    cases uu : unM kd (Int32.ofInt 2)
    · rw [if_neg (by decide), if_neg k6]
      rw [uu] at head2
      obtain ⟨B, cB, aB⟩ := k_pW7 d (by omega) hA x
      refine ⟨B, head2 ?_, aB.up (by omega)⟩
      refine XGo.go 1 rfl ?_
      refine XGo.ifp rfl ?_
      refine XGo.go 2 rfl ?_
      refine XGo.call _ rfl xm_X7_plainWaits rfl rfl [.ref 536, .int x] [] rfl rfl (am_r hA rfl rfl) (Nat.le_of_ble_eq_true rfl) cB ?_
      exact XGo.iret _ rfl rfl .int rfl rfl
    · rw [if_pos rfl]
      rw [uu] at head2
      obtain ⟨A, cA, aA⟩ := k_run7 (d + 3) (by omega) hA (Int8.ofInt 21).toInt32
      obtain ⟨B, cB, aB⟩ := k_pW7 d (by omega) aA x
      refine ⟨B, head2 ?_, aB⟩
      refine XGo.go 1 rfl ?_
      refine XGo.ifn (by decide) ?_
      refine XGo.go 2 rfl ?_
      refine XGo.call _ rfl xm_X7_runs rfl rfl [.ref 536, .int (Int8.ofInt 21).toInt32] [] rfl rfl (am_r hA rfl rfl) (Nat.le_of_ble_eq_true rfl) cA ?_
      refine XGo.go 2 rfl ?_
      refine XGo.call _ rfl xm_X7_plainWaits rfl rfl [.ref 536, .int x] [] rfl rfl (am_r aA rfl rfl) (Nat.le_of_ble_eq_true rfl) cB ?_
      refine XGo.go 1 rfl ?_
      exact XGo.iret _ rfl rfl .int rfl rfl
set_option maxRecDepth 100000 in
theorem k_pE7 (d : Nat) {H : XH} {K : Nat} (hK : K + 4 < 1000) (hA : AMs H kd wh nm K) (x : Int32) : ∃ H1 : XH, XCall xM (d + 6) 175 [.ref 536, .int x] H (some (.int (waiV kd wh nm x * Int32.ofInt 2))) H1 ∧ AMs H1 kd wh nm (K + 5) := by
  obtain ⟨A, cA, aA⟩ := k_run7 (d + 4) (by omega) hA (Int32.ofInt 3)
  obtain ⟨B, cB, aB⟩ := k_wA7 d (by omega) aA x
  refine ⟨B, XCall.of (M := xm_X7_plainEnds) rfl (Nat.le_of_ble_eq_true rfl) ?_, aB⟩
  refine XGo.go 2 rfl ?_
  refine XGo.call _ rfl xm_X7_runs rfl rfl [.ref 536, .int (Int32.ofInt 3)] [] rfl rfl (am_r hA rfl rfl) (Nat.le_of_ble_eq_true rfl) cA ?_
  refine XGo.go 2 rfl ?_
  refine XGo.call _ rfl xm_X7_waitsActs rfl rfl [.ref 536, .int x] [] rfl rfl (am_r aA rfl rfl) (Nat.le_of_ble_eq_true rfl) cB ?_
  refine XGo.go 2 rfl ?_
  exact XGo.iret _ rfl rfl .int rfl rfl
set_option maxRecDepth 100000 in
theorem k_eA7 (d : Nat) {H : XH} {K : Nat} (hK : K + 7 < 1000) (hA : AMs H kd wh nm K) (x : Int32) : ∃ H1 : XH, XCall xM (d + 7) 176 [.ref 536, .int x] H (some (.int (endV kd wh nm x))) H1 := by
  have head : ∀ {v : Option Value} {H1 : XH}, XGo (d + 6) xm_X7_endsActs (if kd = Int32.ofInt 4 then 8 else 30, [some (.ref 536), some (.int x), none], [], H) v H1 → XCall xM (d + 7) 176 [.ref 536, .int x] H v H1 := fun {v H1} k => by
    refine XCall.of (M := xm_X7_endsActs) rfl (Nat.le_of_ble_eq_true rfl) ?_
    refine XGo.go 1 rfl ?_
    refine XGo.getf rfl (am_k hA) ?_
    exact XGo.go 2 rfl k
  unfold endV
  by_cases k4 : kd = Int32.ofInt 4
  · rw [show unM kd (Int32.ofInt 3) = false by rw [k4]; decide, if_neg (by decide), if_pos k4]
    obtain ⟨A, cA, aA⟩ := k_run7 (d + 5) (by omega) hA (Int8.ofInt 41).toInt32
    obtain ⟨B, cB, aB⟩ := k_pE7 d (by omega) aA (x - Int32.ofInt 1)
    obtain ⟨C, cC, aC⟩ := k_hA7 (d + 3) (by omega) aB (Int32.ofInt 2)
    refine ⟨C, head (XGo.ifp k4 ?_)⟩
    refine XGo.go 2 rfl ?_
    refine XGo.call _ rfl xm_X7_runs rfl rfl [.ref 536, .int (Int8.ofInt 41).toInt32] [] rfl rfl (am_r hA rfl rfl) (Nat.le_of_ble_eq_true rfl) cA ?_
    refine XGo.go 4 rfl ?_
    refine XGo.call _ rfl xm_X7_plainEnds rfl rfl [.ref 536, .int (x - Int32.ofInt 1)] [] rfl rfl (am_r aA rfl rfl) (Nat.le_of_ble_eq_true rfl) cB ?_
    refine XGo.go 4 rfl ?_
    refine XGo.call _ rfl xm_X7_hasActs rfl rfl [.ref 536, .int (Int32.ofInt 2)] [.int (waiV kd wh nm (x - Int32.ofInt 1) * Int32.ofInt 2)] rfl rfl (am_r aB rfl rfl) (Nat.le_of_ble_eq_true rfl) cC ?_
    refine XGo.go 1 rfl ?_
    exact XGo.iret _ rfl rfl .int rfl rfl
  · have head2 : ∀ {v : Option Value} {H1 : XH}, XGo (d + 6) xm_X7_endsActs (38, [some (.ref 536), some (.int x), none], [.int (b01 (unM kd (Int32.ofInt 3)))], H) v H1 → XCall xM (d + 7) 176 [.ref 536, .int x] H v H1 := fun {v H1} k => by
      refine head (XGo.ifn k4 ?_)
      refine XGo.go 1 rfl ?_
      refine XGo.getf rfl (am_k hA) ?_
      refine XGo.go 1 rfl ?_
      exact XGo.call _ rfl xm_X7_isUnder rfl rfl [.int kd, .int (Int32.ofInt 3)] [] rfl rfl (fun z => absurd rfl z) (Nat.le_of_ble_eq_true rfl) (k_unM (d + 5) H _ _) k
    cases uu : unM kd (Int32.ofInt 3)
    · rw [if_neg (by decide), if_neg k4]
      rw [uu] at head2
      obtain ⟨B, cB, aB⟩ := k_pE7 d (by omega) hA x
      refine ⟨B, head2 ?_⟩
      refine XGo.go 1 rfl ?_
      refine XGo.ifp rfl ?_
      refine XGo.go 2 rfl ?_
      refine XGo.call _ rfl xm_X7_plainEnds rfl rfl [.ref 536, .int x] [] rfl rfl (am_r hA rfl rfl) (Nat.le_of_ble_eq_true rfl) cB ?_
      exact XGo.iret _ rfl rfl .int rfl rfl
    · rw [if_pos rfl]
      rw [uu] at head2
      obtain ⟨A, cA, aA⟩ := k_run7 (d + 5) (by omega) hA (Int8.ofInt 31).toInt32
      obtain ⟨B, cB, aB⟩ := k_pE7 d (by omega) aA x
      refine ⟨B, head2 ?_⟩
      refine XGo.go 1 rfl ?_
      refine XGo.ifn (by decide) ?_
      refine XGo.go 2 rfl ?_
      refine XGo.call _ rfl xm_X7_runs rfl rfl [.ref 536, .int (Int8.ofInt 31).toInt32] [] rfl rfl (am_r hA rfl rfl) (Nat.le_of_ble_eq_true rfl) cA ?_
      refine XGo.go 2 rfl ?_
      refine XGo.call _ rfl xm_X7_plainEnds rfl rfl [.ref 536, .int x] [] rfl rfl (am_r aA rfl rfl) (Nat.le_of_ble_eq_true rfl) cB ?_
      refine XGo.go 2 rfl ?_
      exact XGo.iret _ rfl rfl .int rfl rfl
end AM
/-! act on both sides: the answer -/
theorem w_rg_87 : w_rg 87 = 57 ∧ w_rg 23 = 23 ∧ w_rg 548 = 77 := by decide +kernel
theorem k57s : w_S 57 = (0, 2, 0, w_s57.2.2.2.1, []) := rfl
theorem GH.p13 {h : XH} {fw : List Value} {G T : Nat} (u : GH h fw G T) (x : Int32) : GH (xup h 14 (.inl (5, fw.set 13 (.int x)))) (fw.set 13 (.int x)) G T := by
  obtain ⟨a, b, ⟨fs, c, c1, c2⟩, dd, e, f, g, i, j, ⟨f20, k, k1⟩, l, ⟨tp, o⟩, ⟨q1, q2, q3, L, N, t0, r1, r2, r3, r4, r5⟩⟩ := u
  refine ⟨a, b, ⟨fs, (xup_ne _ _ (by decide)).trans c, c1, c2⟩, xup_eq _ _ _, by rw [List.length_set]; exact e, by rw [List.getElem?_set_ne (by decide)]; exact f, by rw [List.getElem?_set_ne (by decide)]; exact g, by rw [List.getElem?_set_ne (by decide)]; exact i, by rw [List.getElem?_set_ne (by decide)]; exact j, ⟨f20, (xup_ne _ _ (by decide)).trans k, k1⟩, fun z hz => ?_, ⟨tp, (xup_ne _ _ (by decide)).trans o⟩, ⟨q1, q2, q3, L, N, t0, (xup_ne _ _ (by decide)).trans r1, (xup_ne _ _ (by decide)).trans r2, (xup_ne _ _ (by decide)).trans r3, (xup_ne _ _ (by decide)).trans r4, (xup_ne _ _ (by decide)).trans r5⟩⟩
  obtain ⟨k2, L2, N2, p1, p2, p3⟩ := l z hz
  exact ⟨k2, L2, N2, (xup_ne _ _ (by omega)).trans p1, (xup_ne _ _ (by omega)).trans p2, (xup_ne _ _ (by omega)).trans p3⟩
/-- what act answers for a grant that is there -/
def acS (f : Nat → Int32) (g nc : Nat) (cl a x : Int32) : Int32 := if ¬ isCl nc cl then Int32.ofInt 0 else if ¬ (0 ≤ a.toInt ∧ a.toInt ≤ 2) then Int32.ofInt 0 else if a = 0 then hasV (nI (kiS f g cl.toNatClampNeg)) cl x else if a = Int32.ofInt 1 then waiV (nI (kiS f g cl.toNatClampNeg)) (nI g) cl x else endV (nI (kiS f g cl.toNatClampNeg)) (nI g) cl x
theorem k_in02 (d : Nat) (h : XH) (x : Int32) : XCall xM (d + 1) 107 [.int x, .int (Int32.ofInt 0), .int (Int32.ofInt 2)] h (some (.int (if 0 ≤ x.toInt ∧ x.toInt ≤ 2 then 1 else 0))) h := by
  have q := k_inI d h x (Int32.ofInt 0) (Int32.ofInt 2)
  rw [show (Int32.ofInt 0).toInt = 0 by decide, show (Int32.ofInt 2).toInt = 2 by decide] at q
  exact q
theorem list3v {fs : List Value} (hl : fs.length = 3) {a b c : Value} (h0 : fs[0]? = some a) (h1 : fs[1]? = some b) (h2 : fs[2]? = some c) : fs = [a, b, c] := list3 hl h0 h1 h2
section AT
variable {h : XH} {fw : List Value} {G T : Nat} {f : Nat → Int32} {g nc : Nat} {Lt Nt : Nat → Int32}
abbrev acL (gr cl a x : Int32) (l5 : Option Value) : XL := [some (.ref 13), some (.int gr), some (.int cl), some (.int a), some (.int x), l5]
theorem cac_h (d : Nat) (hI : AInv w_W h) (hH : GH h fw G T) {gr cl a x : Int32} {w : Value} (c58 : XCall xM (d + 1) 58 [.ref 14, .int gr] (xup h 14 (.inl (5, fw.set 13 (.int (Int32.ofInt 0))))) (some w) (xup h 14 (.inl (5, fw.set 13 (.int (Int32.ofInt 0)))))) {v : Option Value} {hend : XH} (k : XGo (d + 1) xm_X6_act (16, acL gr cl a x none, [w], xup h 14 (.inl (5, fw.set 13 (.int (Int32.ofInt 0))))) v hend) : XCall xM (d + 2) 83 [.ref 13, .int gr, .int cl, .int a, .int x] h v hend := by
  have hN := hH.N
  obtain ⟨fs, o13, l13, -⟩ := w_obj hI (k := 13) (by decide) w_rg_13 k13S
  have e0 := ref_at hI (by decide) w_rg_13 k13S (b := 0) rfl rfl w_rg_14 (by decide) o13
  have hB := hH.p13 (Int32.ofInt 0)
  refine XCall.of (M := xm_X6_act) rfl (Nat.le_of_ble_eq_true rfl) ?_
  refine XGo.go 1 rfl ?_
  refine XGo.getf rfl (xfd_o o13 (xlt hN (by decide)) (by decide) e0) ?_
  refine XGo.go 1 rfl ?_
  refine XGo.putf rfl hH.o14 (xlt hN (by decide)) (by decide) (by rw [hH.len]; decide) rfl rfl ?_
  refine XGo.go 1 rfl ?_
  refine XGo.getf rfl (xfd_o ((xup_ne _ _ (by decide)).trans o13) (xlt (h := xup h 14 _) hN (by decide)) (by decide) e0) ?_
  refine XGo.go 1 rfl ?_
  exact XGo.call _ rfl xm_X5_grantAt rfl rfl [.ref 14, .int gr] [] rfl rfl (fun _ => ⟨14, _, rfl, hB.o14, by decide, by have := hB.N; omega⟩) (Nat.le_of_ble_eq_true rfl) c58 k
set_option maxRecDepth 100000 in
theorem k_cac (hI : AInv w_W h) (h0 : h.2.2 0 = .inr (.inl (0, 7, xab))) (hH : GH h fw G T) (hG : G ≤ 6) (hg : g < G) (hnc : 1 ≤ nc ∧ nc ≤ 6) (hCG : CG h (24 + 3 * g) (nI nc) Lt Nt) (hC : CI f g Lt Nt nc) (cl a x : Int32) : ∃ h1 : XH, XCall xM 8 83 [.ref 13, .int (nI g), .int cl, .int a, .int x] h (some (.int (acS f g nc cl a x))) h1 := by
  have hN := hH.N
  have e2 : (Int32.ofInt 2).toInt = 2 := by decide
  obtain ⟨fs, o13, l13, -⟩ := w_obj hI (k := 13) (by decide) w_rg_13 k13S
  have f0 := ref_at hI (by decide) w_rg_13 k13S (b := 0) rfl rfl w_rg_14 (by decide) o13
  obtain ⟨r87, r23, -⟩ := w_rg_87
  have f8 := ref_at hI (by decide) w_rg_13 k13S (b := 8) rfl rfl r87 (by decide) o13
  have f14 := ref_at hI (by decide) w_rg_14 k14s (b := 14) rfl rfl r23 (by decide) hH.o14
  obtain ⟨gs, o87, l87, -⟩ := w_obj hI (k := 87) (by decide) r87 k57s
  obtain ⟨tr, o23⟩ := w_ints hI (k := 23) (by decide) r23 (show w_S 23 = (1, 0, 20, [], w_s23.2.2.2.2) from rfl)
  obtain ⟨x0, g0⟩ := int_at hI (by decide) r87 k57s (b := 0) rfl rfl o87
  obtain ⟨x1, g1⟩ := int_at hI (by decide) r87 k57s (b := 1) rfl rfl o87
  obtain ⟨x2, g2⟩ := int_at hI (by decide) r87 k57s (b := 2) rfl rfl o87
  have eg := list3v l87 g0 g1 g2
  subst eg
  have hB := hH.p13 (Int32.ofInt 0)
  let fw2 := fw.set 13 (.int (Int32.ofInt 0))
  let B : XH := xup h 14 (.inl (5, fw2))
  have BN : B.1 = 549 := hN
  have Bn : ∀ z, ¬ z = 14 → B.2.2 z = h.2.2 z := fun z hz => xup_ne _ _ hz
  have hCB : CG B (24 + 3 * g) (nI nc) Lt Nt := ⟨(Bn _ (by omega)).trans hCG.1, (Bn _ (by omega)).trans hCG.2.1, (Bn _ (by omega)).trans hCG.2.2⟩
  have head : ∀ {v : Option Value} {hend : XH}, XGo 7 xm_X6_act (29, acL (nI g) cl a x (some (.ref (24 + 3 * g))), [.int (if isCl nc cl then 1 else 0)], B) v hend → XCall xM 8 83 [.ref 13, .int (nI g), .int cl, .int a, .int x] h v hend := fun {v hend} t => by
    refine cac_h 6 hI hH (k_gAt 6 hB hg hG) ?_
    refine XGo.go 5 rfl ?_
    exact XGo.call _ rfl xm_X1_hasClause rfl rfl [.ref (24 + 3 * g), .int cl] [] rfl rfl (fun _ => ⟨24 + 3 * g, _, rfl, hCB.1, by omega, by have := BN; omega⟩) (Nat.le_of_ble_eq_true rfl) (k_hasC 6 BN hCB (by omega) hnc.2 cl) t
  have bad : ∃ h1 : XH, XGo 7 xm_X6_act (41, acL (nI g) cl a x (some (.ref (24 + 3 * g))), [], B) (some (.int (Int32.ofInt 0))) h1 := by
    refine ⟨B, ?_⟩
    refine XGo.go 1 rfl ?_
    exact XGo.iret _ rfl rfl .int rfl rfl
  obtain ⟨hb, bad⟩ := bad
  unfold acS
  by_cases hl : isCl nc cl
  · rw [if_neg (fun q => q hl)]
    rw [if_pos hl] at head
    by_cases hk : 0 ≤ a.toInt ∧ a.toInt ≤ 2
    · rw [if_neg (fun q => q hk)]
      obtain ⟨cn, cle⟩ := i32_nI (x := cl) (hi := 5) hl.1 (by have := hl.2; omega)
      have cl2 : cl.toNatClampNeg < nc := by
        have t := nI_toInt (n := cl.toNatClampNeg) (by omega)
        rw [← cn] at t
        have := hl.2
        omega
      have c22 := k_kiC 4 BN hCB (by omega) hnc.2 hC cl2
      rw [← cn] at c22
      obtain ⟨ka, kb⟩ := kiS_in f g cl.toNatClampNeg
      generalize hkd : kiS f g cl.toNatClampNeg = kd at *
      -- the interest as it is made
      let C : XH := xup B 87 (.inl (2, [.int (nI kd), .int (nI g), .int cl]))
      have CN : C.1 = 549 := hN
      have Cn : ∀ z, ¬ z = 87 → C.2.2 z = B.2.2 z := fun z hz => xup_ne _ _ hz
      have aC : ACs C (nI kd) (nI g) cl := ⟨hN, (Cn 0 (by decide)).trans ((Bn 0 (by decide)).trans h0), ⟨fw2, (Cn 14 (by decide)).trans (xup_eq _ _ _), by rw [List.length_set]; exact hH.len, ⟨_, by rw [List.getElem?_set_self (by rw [hH.len]; decide)]⟩, by rw [List.getElem?_set_ne (by decide)]; exact f14⟩, ⟨tr, (Cn 23 (by decide)).trans ((Bn 23 (by decide)).trans o23)⟩, xup_eq _ _ _⟩
      have cBe : XCall xM 1 24 [.ref 87, .int (nI kd), .int (nI g), .int cl] B none C := by
        have b87 : B.2.2 87 = .inl (2, [.int x0, .int x1, .int x2]) := (Bn 87 (by decide)).trans o87
        refine XCall.of (M := xm_X2_be) rfl (Nat.le_of_ble_eq_true rfl) ?_
        refine XGo.go 2 rfl ?_
        refine XGo.putf rfl b87 (xlt BN (by decide)) (by decide) (Nat.le_of_ble_eq_true rfl) rfl rfl ?_
        refine XGo.go 2 rfl ?_
        refine XGo.putf rfl (xup_eq _ _ _) (xlt (h := xup B 87 _) BN (by decide)) (by decide) (Nat.le_of_ble_eq_true rfl) rfl rfl ?_
        rw [xup_up]
        refine XGo.go 2 rfl ?_
        refine XGo.putf rfl (xup_eq _ _ _) (xlt (h := xup B 87 _) BN (by decide)) (by decide) (Nat.le_of_ble_eq_true rfl) rfl rfl ?_
        rw [xup_up]
        exact XGo.vret _ rfl rfl rfl
      have to58 : ∀ {v : Option Value} {hend : XH}, XGo 7 xm_X6_act (58, acL (nI g) cl a x (some (.ref (24 + 3 * g))), [], C) v hend → XCall xM 8 83 [.ref 13, .int (nI g), .int cl, .int a, .int x] h v hend := fun {v hend} t => by
        refine head ?_
        refine XGo.go 1 rfl ?_
        refine XGo.ifn (by decide) ?_
        refine XGo.go 2 rfl ?_
        refine XGo.ifn (fun q => by have := lt0_iff.mp q; omega) ?_
        refine XGo.go 3 rfl ?_
        refine XGo.ifp (Int32.le_iff_toInt_le.mpr (by rw [e2]; exact hk.2)) ?_
        refine XGo.go 1 rfl ?_
        refine XGo.getf rfl (xfd_o ((Bn 13 (by decide)).trans o13) (xlt BN (by decide)) (by decide) f8) ?_
        refine XGo.go 2 rfl ?_
        refine XGo.call _ rfl xm_X1_kindOf rfl rfl [.ref (24 + 3 * g), .int cl] [.ref 87] rfl rfl (fun _ => ⟨24 + 3 * g, _, rfl, hCB.1, by omega, by have := BN; omega⟩) (Nat.le_of_ble_eq_true rfl) c22 ?_
        refine XGo.go 2 rfl ?_
        refine XGo.call _ rfl xm_X2_be rfl rfl [.ref 87, .int (nI kd), .int (nI g), .int cl] [] rfl rfl (fun _ => ⟨87, _, rfl, (Bn 87 (by decide)).trans o87, by decide, by have := BN; omega⟩) (Nat.le_of_ble_eq_true rfl) (XCall.up (by decide) cBe) t
      have C13 : C.2.2 13 = .inl (6, fs) := (Cn 13 (by decide)).trans ((Bn 13 (by decide)).trans o13)
      by_cases a0 : a = 0
      · rw [if_pos a0]
        obtain ⟨D, cD, -⟩ := k_dH 5 aC x
        refine ⟨D, to58 ?_⟩
        refine XGo.go 2 rfl ?_
        refine XGo.ifp a0 ?_
        refine XGo.go 1 rfl ?_
        refine XGo.getf rfl (xfd_o C13 (xlt CN (by decide)) (by decide) f8) ?_
        refine XGo.go 1 rfl ?_
        refine XGo.getf rfl (xfd_o C13 (xlt CN (by decide)) (by decide) f0) ?_
        refine XGo.go 1 rfl ?_
        refine XGo.call _ rfl xm_X2_doHas rfl rfl [.ref 87, .ref 14, .int x] [] rfl rfl (ac_r87 aC rfl rfl) (Nat.le_of_ble_eq_true rfl) cD ?_
        exact XGo.iret _ rfl rfl .int rfl rfl
      · rw [if_neg a0]
        by_cases a1 : a = Int32.ofInt 1
        · rw [if_pos a1]
          obtain ⟨D, cD, -⟩ := k_dW 3 rfl ⟨ka, kb⟩ aC x
          refine ⟨D, to58 ?_⟩
          refine XGo.go 2 rfl ?_
          refine XGo.ifn a0 ?_
          refine XGo.go 3 rfl ?_
          refine XGo.ifp a1 ?_
          refine XGo.go 1 rfl ?_
          refine XGo.getf rfl (xfd_o C13 (xlt CN (by decide)) (by decide) f8) ?_
          refine XGo.go 1 rfl ?_
          refine XGo.getf rfl (xfd_o C13 (xlt CN (by decide)) (by decide) f0) ?_
          refine XGo.go 1 rfl ?_
          refine XGo.call _ rfl xm_X2_doWaits rfl rfl [.ref 87, .ref 14, .int x] [] rfl rfl (ac_r87 aC rfl rfl) (Nat.le_of_ble_eq_true rfl) cD ?_
          refine XGo.go 1 rfl ?_
          exact XGo.iret _ rfl rfl .int rfl rfl
        · rw [if_neg a1]
          obtain ⟨D, cD, -⟩ := k_dE 1 rfl ⟨ka, kb⟩ aC x
          refine ⟨D, to58 ?_⟩
          refine XGo.go 2 rfl ?_
          refine XGo.ifn a0 ?_
          refine XGo.go 3 rfl ?_
          refine XGo.ifn a1 ?_
          refine XGo.go 1 rfl ?_
          refine XGo.getf rfl (xfd_o C13 (xlt CN (by decide)) (by decide) f8) ?_
          refine XGo.go 1 rfl ?_
          refine XGo.getf rfl (xfd_o C13 (xlt CN (by decide)) (by decide) f0) ?_
          refine XGo.go 1 rfl ?_
          refine XGo.call _ rfl xm_X2_doEnds rfl rfl [.ref 87, .ref 14, .int x] [] rfl rfl (ac_r87 aC rfl rfl) (Nat.le_of_ble_eq_true rfl) cD ?_
          exact XGo.iret _ rfl rfl .int rfl rfl
    · rw [if_pos hk]
      refine ⟨hb, head ?_⟩
      refine XGo.go 1 rfl ?_
      refine XGo.ifn (by decide) ?_
      refine XGo.go 2 rfl ?_
      by_cases w0 : a < 0
      · exact XGo.ifp w0 bad
      · have e0 : ¬ a.toInt < 0 := fun q => w0 (lt0_iff.mpr q)
        refine XGo.ifn w0 ?_
        refine XGo.go 3 rfl ?_
        exact XGo.ifn (fun q => hk ⟨by omega, by have := Int32.le_iff_toInt_le.mp q; rw [e2] at this; exact this⟩) bad
  · rw [if_pos hl]
    rw [if_neg hl] at head
    refine ⟨hb, head ?_⟩
    refine XGo.go 1 rfl ?_
    exact XGo.ifp rfl bad
end AT
section AU
variable {h : XH} {G : Nat} {f : Nat → Int32} {g nc : Nat}
theorem mbk_e {e : Nat → Int32} (hB : MBk h f) (e2 : Nat → Int32) : MBk (xup h 536 (.inl (7, mO e2))) f := by
  obtain ⟨hN, hS, ⟨e, o36⟩, hf, ⟨s, s0, s1, s2, s3⟩, ⟨a3, e3⟩, ⟨a4, e4⟩, ⟨a5, e5⟩⟩ := hB
  exact ⟨hN, hS, ⟨e2, xup_eq _ _ _⟩, (xup_ne _ _ (by decide)).trans hf, ⟨s, (xup_ne _ _ (by decide)).trans s0, (xup_ne _ _ (by decide)).trans s1, (xup_ne _ _ (by decide)).trans s2, (xup_ne _ _ (by decide)).trans s3⟩, ⟨a3, (xup_ne _ _ (by decide)).trans e3⟩, ⟨a4, (xup_ne _ _ (by decide)).trans e4⟩, ⟨a5, (xup_ne _ _ (by decide)).trans e5⟩⟩
theorem mac_h (d : Nat) {e : Nat → Int32} (hN : h.1 = 549) (o36 : h.2.2 536 = .inl (7, mO e)) {gr cl a x : Int32} {b : Int32} (q : XCall xM (d + 3) 109 [.ref 536, .int gr, .int cl] (xup h 536 (.inl (7, mO (upd e 21 (Int32.ofInt 0))))) (some (.int b)) (xup h 536 (.inl (7, mO (upd e 21 (Int32.ofInt 0)))))) {v : Option Value} {hend : XH} (t : XGo (d + 3) xm_X7_act (11, [some (.ref 536), some (.int gr), some (.int cl), some (.int a), some (.int x)], [.int b], xup h 536 (.inl (7, mO (upd e 21 (Int32.ofInt 0))))) v hend) : XCall xM (d + 4) 177 [.ref 536, .int gr, .int cl, .int a, .int x] h v hend := by
  refine XCall.of (M := xm_X7_act) rfl (Nat.le_of_ble_eq_true rfl) ?_
  refine XGo.go 2 rfl ?_
  refine XGo.putf rfl o36 (xlt hN (by decide)) (by decide) (Nat.le_of_ble_eq_true rfl) rfl rfl ?_
  rw [mo21]
  refine XGo.go 3 rfl ?_
  exact XGo.call _ rfl xm_X7_isClause rfl rfl [.ref 536, .int gr, .int cl] [] rfl rfl (fun _ => ⟨536, _, rfl, xup_eq _ _ _, by decide, by show 536 < h.1; omega⟩) (Nat.le_of_ble_eq_true rfl) q t
set_option maxRecDepth 100000 in
theorem k_mac (hB : MBk h f) {bd : Nat → Int32} (o48 : h.2.2 548 = .inr (.inl (0, 20, bd))) (hG : G ≤ 6) (f2 : f 2 = nI G) (hg : g < G) (hnc : 1 ≤ nc ∧ nc ≤ 6) (hfn : f (130 + g) = nI nc) (cl a x : Int32) : ∃ h1 : XH, XCall xM 8 177 [.ref 536, .int (nI g), .int cl, .int a, .int x] h (some (.int (acS f g nc cl a x))) h1 := by
  obtain ⟨hN, hS, ⟨e, o36⟩, hf, -⟩ := id hB
  let e1 := upd e 21 (Int32.ofInt 0)
  let B : XH := xup h 536 (.inl (7, mO e1))
  have BB : MBk B f := mbk_e (e := e) hB e1
  have BN : B.1 = 549 := hN
  have B36 : B.2.2 536 = .inl (7, mO e1) := xup_eq _ _ _
  have Bf : B.2.2 537 = .inr (.inl (0, 490, f)) := (xup_ne _ _ (by decide)).trans hf
  have head := @mac_h h 4 e hN o36 (nI g) cl a x _ (k_isCl7 4 BB hG f2 hg hnc hfn cl)
  have rc : ∀ {as : List Value} {M : XMeth}, xmC M = 7 → as.head? = some (.ref 536) → xrecv M as B := fun hM ha _ => ⟨536, _, ha, by rw [hM]; exact B36, by decide, by show 536 < h.1; omega⟩
  have bad : XGo 7 xm_X7_act (23, [some (.ref 536), some (.int (nI g)), some (.int cl), some (.int a), some (.int x)], [], B) (some (.int (Int32.ofInt 0))) B := by
    refine XGo.go 1 rfl ?_
    exact XGo.iret _ rfl rfl .int rfl rfl
  unfold acS
  by_cases hl : isCl nc cl
  · rw [if_neg (fun q => q hl)]
    have to17 : ∀ {v : Option Value} {hend : XH}, XGo 7 xm_X7_act (20, [some (.ref 536), some (.int (nI g)), some (.int cl), some (.int a), some (.int x)], [.int (if 0 ≤ a.toInt ∧ a.toInt ≤ 2 then 1 else 0)], B) v hend → XCall xM 8 177 [.ref 536, .int (nI g), .int cl, .int a, .int x] h v hend := fun {v hend} t => by
      refine head ?_
      rw [if_pos hl]
      refine XGo.go 1 rfl ?_
      refine XGo.ifn (by decide) ?_
      refine XGo.go 3 rfl ?_
      exact XGo.call _ rfl xm_X7_in rfl rfl [.int a, .int (Int32.ofInt 0), .int (Int32.ofInt 2)] [] rfl rfl (fun z => absurd rfl z) (Nat.le_of_ble_eq_true rfl) (k_in02 6 B a) t
    by_cases hk : 0 ≤ a.toInt ∧ a.toInt ≤ 2
    · rw [if_neg (fun q => q hk)]
      obtain ⟨cn, cle⟩ := i32_nI (x := cl) (hi := 5) hl.1 (by have := hl.2; omega)
      have c169 := k_kiM 5 BN B36 Bf (show g < 6 by omega) (show cl.toNatClampNeg < 6 by omega)
      rw [← cn] at c169
      generalize hkd : kiS f g cl.toNatClampNeg = kd at *
      let e4 := upd (upd (upd e1 22 (nI kd)) 23 cl) 24 (nI g)
      let C : XH := xup h 536 (.inl (7, mO e4))
      have aC : AMs C (nI kd) (nI g) cl 0 := ⟨hN, ⟨e4, xup_eq _ _ _, ⟨0, Nat.le_refl 0, rfl⟩, rfl, rfl, rfl⟩, ⟨bd, (xup_ne _ _ (by decide)).trans o48⟩⟩
      have to45 : ∀ {v : Option Value} {hend : XH}, XGo 7 xm_X7_act (45, [some (.ref 536), some (.int (nI g)), some (.int cl), some (.int a), some (.int x)], [], C) v hend → XCall xM 8 177 [.ref 536, .int (nI g), .int cl, .int a, .int x] h v hend := fun {v hend} t => by
        refine to17 ?_
        rw [if_pos hk]
        refine XGo.go 1 rfl ?_
        refine XGo.ifn (by decide) ?_
        refine XGo.go 4 rfl ?_
        refine XGo.call _ rfl xm_X7_kindOf rfl rfl [.ref 536, .int (nI g), .int cl] [.ref 536] rfl rfl (rc rfl rfl) (Nat.le_of_ble_eq_true rfl) c169 ?_
        refine XGo.putf rfl B36 (xlt BN (by decide)) (by decide) (Nat.le_of_ble_eq_true rfl) rfl rfl ?_
        rw [mo22, xup_up]
        refine XGo.go 2 rfl ?_
        refine XGo.putf rfl (xup_eq _ _ _) (xlt (h := xup h 536 _) hN (by decide)) (by decide) (Nat.le_of_ble_eq_true rfl) rfl rfl ?_
        rw [mo23, xup_up]
        refine XGo.go 2 rfl ?_
        refine XGo.putf rfl (xup_eq _ _ _) (xlt (h := xup h 536 _) hN (by decide)) (by decide) (Nat.le_of_ble_eq_true rfl) rfl rfl ?_
        rw [mo24, xup_up]
        exact t
      by_cases a0 : a = 0
      · rw [if_pos a0]
        obtain ⟨D, cD, -⟩ := k_hA7 4 (by decide) aC x
        refine ⟨D, to45 ?_⟩
        refine XGo.go 2 rfl ?_
        refine XGo.ifp a0 ?_
        refine XGo.go 2 rfl ?_
        refine XGo.call _ rfl xm_X7_hasActs rfl rfl [.ref 536, .int x] [] rfl rfl (am_r aC rfl rfl) (Nat.le_of_ble_eq_true rfl) cD ?_
        refine XGo.go 1 rfl ?_
        exact XGo.iret _ rfl rfl .int rfl rfl
      · rw [if_neg a0]
        by_cases a1 : a = Int32.ofInt 1
        · rw [if_pos a1]
          obtain ⟨D, cD, -⟩ := k_wA7 2 (by decide) aC x
          refine ⟨D, to45 ?_⟩
          refine XGo.go 2 rfl ?_
          refine XGo.ifn a0 ?_
          refine XGo.go 3 rfl ?_
          refine XGo.ifp a1 ?_
          refine XGo.go 2 rfl ?_
          refine XGo.call _ rfl xm_X7_waitsActs rfl rfl [.ref 536, .int x] [] rfl rfl (am_r aC rfl rfl) (Nat.le_of_ble_eq_true rfl) cD ?_
          refine XGo.go 1 rfl ?_
          exact XGo.iret _ rfl rfl .int rfl rfl
        · rw [if_neg a1]
          obtain ⟨D, cD⟩ := k_eA7 0 (by decide) aC x
          refine ⟨D, to45 ?_⟩
          refine XGo.go 2 rfl ?_
          refine XGo.ifn a0 ?_
          refine XGo.go 3 rfl ?_
          refine XGo.ifn a1 ?_
          refine XGo.go 2 rfl ?_
          refine XGo.call _ rfl xm_X7_endsActs rfl rfl [.ref 536, .int x] [] rfl rfl (am_r aC rfl rfl) (Nat.le_of_ble_eq_true rfl) cD ?_
          exact XGo.iret _ rfl rfl .int rfl rfl
    · rw [if_pos hk]
      refine ⟨B, to17 ?_⟩
      rw [if_neg hk]
      refine XGo.go 1 rfl ?_
      exact XGo.ifp rfl bad
  · rw [if_pos hl]
    refine ⟨B, head ?_⟩
    rw [if_neg hl]
    refine XGo.go 1 rfl ?_
    exact XGo.ifp rfl bad
end AU
theorem kiS_c {f f2 : Nat → Int32} {g c : Nat} (hg : g < 6) (hc : c < 6) (h : ∀ j, j < 490 → f2 j = f j) : kiS f2 g c = kiS f g c := by
  have a1 : atC g c + 8 ≤ 428 := by unfold atC; omega
  unfold kiS
  rw [h (atC g c) (by omega), h (atC g c + 6) (by omega), h (atC g c + 2) (by omega)]
/-- ACT ON BOTH SIDES -/
theorem A_act (gr cl a x : Int32) {L : Nat} {xs : Nat → Int32} {h : XH} (hA : INVa L xs h) : ∃ (v : Int32) (h1 h2 : XH), XCall xM 11 83 [.ref 13, .int gr, .int cl, .int a, .int x] h (some (.int v)) h1 ∧ AInv w_W h1 ∧ h1.2.2 1 = h.2.2 1 ∧ XCall xM 11 177 [.ref 536, .int gr, .int cl, .int a, .int x] h1 (some (.int v)) h2 ∧ INVa L xs h2 := by
  obtain ⟨hI, h0⟩ := id hA
  obtain ⟨f, n, m, G, T, fw, hf, W, hH, hG, f2, h3, hg⟩ := G_ctx hI
  have hN := hH.N
  obtain ⟨v1, k1, d1, i1⟩ := G_one h_198 (by decide +kernel) (by decide +kernel) (by decide +kernel) rfl (by decide) (gal13 (galT gr (galT cl (galT a (galT x gal0))))) hI
  have x1 := XCall.ext _ _ _ _ _ _ d1 (by rw [hI.1.1.1]; decide)
  obtain ⟨f', n', m', G', T', fw', hf', W', hH', hG', f2', h3', hg'⟩ := G_ctx i1
  have F : ∀ j, j < 490 → f' j = f j := by
    obtain ⟨v', k', dd, jA, jP, jF⟩ := contract h_198 (by decide +kernel) rfl (gal13 (galT gr (galT cl (galT a (galT x gal0))))) hI.1.1 hI.1.2.1
    obtain ⟨-, e2⟩ := XCall.det d1 dd
    subst e2
    intro j hj
    have r : rd k1 537 j = rd h 537 j := rdF (b := j) w_rg_537 (by decide) jF (by unfold ahit; rfl)
    rw [rd_row hf' hj, rd_row hf hj] at r
    exact int_inj r
  have eG : G' = G := nI_inj (by omega) (by omega) (by rw [← f2', ← f2, F 2 (by decide)])
  subst eG
  have hB' := mbk_of i1.1.1 hf'
  obtain ⟨v2, k2, d2, i2⟩ := G_one h_1002 (by decide +kernel) (by decide +kernel) (by decide +kernel) rfl (by decide) (gal536 (galT gr (galT cl (galT a (galT x gal0))))) i1
  have x2 := XCall.ext _ _ _ _ _ _ d2 (by rw [i1.1.1.1]; decide)
  have fin : v1 = v2 → ∃ (v : Int32) (h1 h2 : XH), XCall xM 11 83 [.ref 13, .int gr, .int cl, .int a, .int x] h (some (.int v)) h1 ∧ AInv w_W h1 ∧ h1.2.2 1 = h.2.2 1 ∧ XCall xM 11 177 [.ref 536, .int gr, .int cl, .int a, .int x] h1 (some (.int v)) h2 ∧ INVa L xs h2 := fun e => by
    subst e
    exact ⟨v1, k1, k2, d1, i1.1.1, x1 1 (by decide), d2, i2, (x2 0 (by decide)).trans ((x1 0 (by decide)).trans h0)⟩
  refine fin ?_
  rcases gr_dec hG gr with hb | ⟨g, hgG, rfl⟩
  · have c1 := cac_h 0 hI.1.1 hH (cl := cl) (a := a) (x := x) (v := some (.int (Int32.ofInt 0))) (k_gNo 0 (hH.p13 (Int32.ofInt 0)) hG hb) (XGo.go 4 rfl (XGo.iret _ rfl rfl .int rfl rfl))
    obtain ⟨e1, -⟩ := XCall.det c1 d1
    obtain ⟨hN', -, ⟨e', o36⟩, -⟩ := id hB'
    have c2 : XCall xM 4 177 [.ref 536, .int gr, .int cl, .int a, .int x] k1 (some (.int (Int32.ofInt 0))) _ := mac_h 0 hN' o36 (k_isCl7n 0 (mbk_e (e := e') hB' _) hG f2' hb cl) (XGo.go 1 rfl (XGo.ifp rfl (XGo.go 1 rfl (XGo.iret _ rfl rfl .int rfl rfl))))
    obtain ⟨e2, -⟩ := XCall.det c2 d2
    exact (int_inj e1).symm.trans (int_inj e2)
  · obtain ⟨nc, Lt, Nt, hnc, hCG, hfn, hC⟩ := hg g hgG
    obtain ⟨nc', Lt', Nt', hnc', hCG', hfn', hC'⟩ := hg' g hgG
    have en : nc' = nc := nI_inj (by omega) (by omega) (by rw [← hfn', ← hfn, F (130 + g) (by omega)])
    subst en
    obtain ⟨A, c1⟩ := k_cac hI.1.1 h0 hH hG hgG hnc hCG hC cl a x
    obtain ⟨e1, -⟩ := XCall.det c1 d1
    obtain ⟨bd, o48⟩ := w_ints i1.1.1 (k := 548) (by decide) w_rg_87.2.2 (show w_S 77 = (1, 0, 20, [], w_s77.2.2.2.2) from rfl)
    obtain ⟨B, c2⟩ := k_mac hB' o48 hG f2' hgG hnc' hfn' cl a x
    obtain ⟨e2, -⟩ := XCall.det c2 d2
    have es : acS f' g nc' cl a x = acS f g nc' cl a x := by
      unfold acS
      by_cases hl : isCl nc' cl
      · obtain ⟨cn, cle⟩ := i32_nI (x := cl) (hi := 5) hl.1 (by have := hl.2; omega)
        rw [kiS_c (show g < 6 by omega) (show cl.toNatClampNeg < 6 by omega) F]
      · rw [if_pos hl, if_pos hl]
    rw [es] at e2
    exact (int_inj e1).symm.trans (int_inj e2)
