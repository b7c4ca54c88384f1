/-! maybe: its leaves, and why it is refused, on both sides -/
abbrev i8 : Int32 := (Int8.ofInt 8).toInt32
/-- a maybe of the kind that someone is born -/
abbrev isCh (m : Nat) (f : Nat → Int32) (w : Int32) : Prop := ¬ w < i8 ∧ ¬ nI m ≤ w - i8 ∧ f (w - i8).toNatClampNeg = 0
theorem i8_int : i8.toInt = 8 := by decide
theorem ch_in {m : Nat} (hm : m ≤ 6) {w : Int32} (h1 : ¬ w < i8) : (w - i8).toInt = w.toInt - 8 ∧ 8 ≤ w.toInt := by
  have e1 : i8.toInt ≤ w.toInt := Int32.le_iff_toInt_le.mp (Int32.not_lt.mp h1)
  rw [i8_int] at e1
  have e2 := i32_hi w
  exact ⟨by rw [i32_sub (by rw [i8_int]; omega) (by rw [i8_int]; omega), i8_int], e1⟩
theorem ch_at {m : Nat} (hm : m ≤ 6) {w : Int32} (h1 : ¬ w < i8) (h2 : ¬ nI m ≤ w - i8) : ¬ (w - i8 < 0 ∨ 6 ≤ (w - i8).toNatClampNeg) ∧ (w - i8).toNatClampNeg = w.toInt.toNat - 8 ∧ 8 ≤ w.toInt ∧ w.toInt < 8 + (m : Int) := by
  obtain ⟨e1, e2⟩ := ch_in hm h1
  have e3 := Int32.lt_iff_toInt_lt.mp (Int32.not_le.mp h2)
  rw [nI_toInt (by omega), e1] at e3
  have e4 : (w - i8).toNatClampNeg = (w - i8).toInt.toNat := rfl
  rw [e1] at e4
  refine ⟨fun q => q.elim (fun z => ?_) (fun z => by omega), by omega, e2, by omega⟩
  have z := Int32.lt_iff_toInt_lt.mp z
  rw [e1, show (0 : Int32).toInt = 0 by decide] at z
  omega
theorem k_isChild (d : Nat) {h : XH} {w r m : Nat} {fw : List Value} {f : Nat → Int32} (hw : h.2.2 w = .inl (5, fw)) (h3 : fw[3]? = some (.int (nI m))) (h4 : fw[4]? = some (.ref r)) (hr : h.2.2 r = .inr (.inl (0, 6, f))) (hk : w < h.1) (h13 : 13 ≤ w) (hrk : r < h.1) (hm : m ≤ 6) (p : Int32) : XCall xM (d + 2) 56 [.ref w, .int p] h (some (.int (if isCh m f p then 1 else 0))) h := by
  refine XCall.of (M := xm_X5_isChild) rfl (Nat.le_of_ble_eq_true rfl) ?_
  refine XGo.go 3 rfl ?_
  by_cases h1 : p < i8
  · refine XGo.ifp h1 ?_
    rw [if_neg (fun q => q.1 h1)]
    refine XGo.go 1 rfl ?_
    exact XGo.iret _ rfl rfl .boolean rfl rfl
  · refine XGo.ifn h1 ?_
    refine XGo.go 4 rfl ?_
    refine XGo.getf rfl (xfd_o hw hk h13 h3) ?_
    refine XGo.go 1 rfl ?_
    by_cases h2 : nI m ≤ p - i8
    · refine XGo.ifp h2 ?_
      rw [if_neg (fun q => q.2.1 h2)]
      refine XGo.go 1 rfl ?_
      exact XGo.iret _ rfl rfl .boolean rfl rfl
    · refine XGo.ifn h2 ?_
      refine XGo.go 1 rfl ?_
      refine XGo.getf rfl (xfd_o hw hk h13 h4) ?_
      refine XGo.go 3 rfl ?_
      obtain ⟨c1, -, -⟩ := ch_at hm h1 h2
      refine XGo.call _ rfl xm_X6_at rfl rfl [.ref r, .int (p - i8)] [] rfl rfl (fun z => absurd rfl z) (Nat.le_of_ble_eq_true rfl) (k_at d h r 6 f (p - i8) hr hrk (by decide)) ?_
      rw [if_neg c1]
      refine XGo.go 1 rfl ?_
      by_cases h5 : f (p - i8).toNatClampNeg = 0
      · refine XGo.ifp h5 ?_
        rw [if_pos ⟨h1, h2, h5⟩]
        refine XGo.go 2 rfl ?_
        exact XGo.iret _ rfl rfl .boolean rfl rfl
      · refine XGo.ifn h5 ?_
        rw [if_neg (fun q => h5 q.2.2)]
        refine XGo.go 1 rfl ?_
        exact XGo.iret _ rfl rfl .boolean rfl rfl
theorem xin_is (v lo hi : Int32) : xin v lo hi = if v < lo ∨ hi < v then 0 else 1 := by
  unfold xin
  by_cases h1 : v < lo
  · rw [if_pos h1, if_pos (Or.inl h1)]
  · rw [if_neg h1]
    by_cases h2 : hi < v
    · rw [if_pos h2, if_pos (Or.inr h2)]
    · rw [if_neg h2, if_neg (fun q => q.elim h1 h2)]
set_option maxRecDepth 100000 in
/-- the model's isThere: a person, or a maybe of the kind that someone is born -/
theorem k_isThere (d : Nat) {h : XH} {fs : List Value} {n m : Nat} {f : Nat → Int32} (hN : h.1 = 549) (h1 : h.2.2 536 = .inl (7, fs)) (hs : fs[1]? = some (.ref 537)) (h2 : h.2.2 537 = .inr (.inl (0, 490, f))) (h0 : f 0 = nI n) (hn : n ≤ 8) (hf1 : f 1 = nI m) (hm : m ≤ 6) (p : Int32) : XCall xM (d + 2) 111 [.ref 536, .int p] h (some (.int (if (0 ≤ p ∧ p < nI n) ∨ isCh m (fun i => f (110 + i)) p then 1 else 0))) h := by
  have l1 : 536 < h.1 := by omega
  have l2 : 537 < h.1 := by omega
  have s0 : xia h 0 537 (Int32.ofInt 0) = some (nI n) := by
    rw [← h0]
    exact xia_i h2 l2 (by decide)
  have s1 : xia h 0 537 (Int32.ofInt 1) = some (nI m) := by
    rw [← hf1]
    exact xia_i h2 l2 (by decide)
  refine XCall.of (M := xm_X7_isThere) rfl (Nat.le_of_ble_eq_true rfl) ?_
  refine XGo.go 3 rfl ?_
  refine XGo.getf rfl (xfd_o h1 l1 (by decide) hs) ?_
  refine XGo.go 1 rfl ?_
  refine XGo.iald rfl s0 ?_
  refine XGo.go 2 rfl ?_
  refine XGo.call _ rfl xm_X7_in rfl rfl [.int p, .int (Int32.ofInt 0), .int (nI n - Int32.ofInt 1)] [] rfl rfl (fun z => absurd rfl z) (Nat.le_of_ble_eq_true rfl) (k_in d h _ _ _) ?_
  rw [xin_pers hn]
  by_cases hp : 0 ≤ p ∧ p < nI n
  · rw [if_pos hp, if_pos (Or.inl hp)]
    refine XGo.go 1 rfl ?_
    refine XGo.ifn (by decide) ?_
    refine XGo.go 2 rfl ?_
    exact XGo.iret _ rfl rfl .boolean rfl rfl
  · rw [if_neg hp]
    refine XGo.go 1 rfl ?_
    refine XGo.ifp rfl ?_
    refine XGo.go 4 rfl ?_
    refine XGo.getf rfl (xfd_o h1 l1 (by decide) hs) ?_
    refine XGo.go 1 rfl ?_
    refine XGo.iald rfl s1 ?_
    refine XGo.go 1 rfl ?_
    show XGo _ _ (28, _, [.int ((Int8.ofInt 7).toInt32 + nI m), .int i8, .int p], _) _ _
    refine XGo.call _ rfl xm_X7_in rfl rfl [.int p, .int i8, .int ((Int8.ofInt 7).toInt32 + nI m)] [] rfl rfl (fun z => absurd rfl z) (Nat.le_of_ble_eq_true rfl) (k_in d h _ _ _) ?_
    rw [xin_is]
    have e7 : ((Int8.ofInt 7).toInt32 + nI m).toInt = 7 + (m : Int) := by
      have q : (Int8.ofInt 7).toInt32 + nI m = nI (7 + m) := nI_add 7 m
      rw [q, nI_toInt (by omega)]
      omega
    by_cases h5 : p < i8
    · rw [if_pos (Or.inl h5), if_neg (fun q => q.elim hp (fun q => q.1 h5))]
      refine XGo.go 1 rfl ?_
      refine XGo.ifp rfl ?_
      refine XGo.go 1 rfl ?_
      exact XGo.iret _ rfl rfl .boolean rfl rfl
    · obtain ⟨e1, e2⟩ := ch_in hm h5
      have key : (Int8.ofInt 7).toInt32 + nI m < p ↔ nI m ≤ p - i8 := by
        rw [Int32.lt_iff_toInt_lt, Int32.le_iff_toInt_le, e7, e1, nI_toInt (by omega)]
        omega
      by_cases h6 : nI m ≤ p - i8
      · rw [if_pos (Or.inr (key.mpr h6)), if_neg (fun q => q.elim hp (fun q => q.2.1 h6))]
        refine XGo.go 1 rfl ?_
        refine XGo.ifp rfl ?_
        refine XGo.go 1 rfl ?_
        exact XGo.iret _ rfl rfl .boolean rfl rfl
      · rw [if_neg (fun q => q.elim h5 (fun q => h6 (key.mp q)))]
        obtain ⟨c1, c2, c3, c4⟩ := ch_at hm h5 h6
        refine XGo.go 1 rfl ?_
        refine XGo.ifn (by decide) ?_
        refine XGo.go 1 rfl ?_
        refine XGo.getf rfl (xfd_o h1 l1 (by decide) hs) ?_
        refine XGo.go 5 rfl ?_
        show XGo _ _ (45, _, [.int ((Int8.ofInt 110).toInt32 + p - i8), .ref 537], _) _ _
        have ei : (Int8.ofInt 110).toInt32 + p - i8 = nI (110 + (p - i8).toNatClampNeg) := by
          have z110 : (Int8.ofInt 110).toInt32.toInt = 110 := by decide
          refine i32_is (by omega) ?_
          rw [i32_sub (by rw [i32_add (by omega) (by omega), i8_int]; omega) (by rw [i32_add (by omega) (by omega), i8_int]; omega), i32_add (by omega) (by omega), i8_int, z110]
          omega
        have sp : xia h 0 537 ((Int8.ofInt 110).toInt32 + p - i8) = some (f (110 + (p - i8).toNatClampNeg)) := by
          rw [ei]
          have q := xia_i (i := nI (110 + (p - i8).toNatClampNeg)) h2 l2 (fun q => q.elim (xnI_lt0 (by omega)) (fun z => by rw [xnI_nat (by omega)] at z; omega))
          rw [xnI_nat (by omega)] at q
          exact q
        refine XGo.iald rfl sp ?_
        refine XGo.go 1 rfl ?_
        by_cases h7 : f (110 + (p - i8).toNatClampNeg) = 0
        · refine XGo.ifp h7 ?_
          rw [if_pos (Or.inr ⟨h5, h6, h7⟩)]
          refine XGo.go 2 rfl ?_
          exact XGo.iret _ rfl rfl .boolean rfl rfl
        · refine XGo.ifn h7 ?_
          rw [if_neg (fun q => q.elim hp (fun q => h7 q.2.2))]
          refine XGo.go 1 rfl ?_
          exact XGo.iret _ rfl rfl .boolean rfl rfl
