/-! what both sides ask of persons, courses and years -/
theorem z0_int : (0 : Int32).toInt = 0 := by decide
theorem lt0_iff {p : Int32} : p < 0 ↔ p.toInt < 0 := by rw [Int32.lt_iff_toInt_lt, z0_int]
theorem k_isOne (d : Nat) (h : XH) (p : Int32) : XCall xM (d + 1) 89 [.int p] h (some (.int (if 0 ≤ p.toInt ∧ p.toInt ≤ 13 then 1 else 0))) h := by
  refine XCall.of (M := xm_X6_isOneOfPeople) rfl (Nat.le_of_ble_eq_true rfl) ?_
  refine XGo.go 2 rfl ?_
  have z : ((Int8.ofInt 14).toInt32).toInt = 14 := by decide
  by_cases h1 : p < 0
  · have := lt0_iff.mp h1
    rw [if_neg (show ¬ (0 ≤ p.toInt ∧ p.toInt ≤ 13) by omega)]
    refine XGo.ifp h1 ?_
    refine XGo.go 1 rfl ?_
    exact XGo.iret _ rfl rfl .boolean rfl rfl
  · have e1 : ¬ p.toInt < 0 := fun q => h1 (lt0_iff.mpr q)
    refine XGo.ifn h1 ?_
    refine XGo.go 3 rfl ?_
    by_cases h2 : (Int8.ofInt 14).toInt32 ≤ p
    · have := Int32.le_iff_toInt_le.mp h2
      rw [if_neg (show ¬ (0 ≤ p.toInt ∧ p.toInt ≤ 13) by omega)]
      refine XGo.ifp h2 ?_
      refine XGo.go 1 rfl ?_
      exact XGo.iret _ rfl rfl .boolean rfl rfl
    · have e2 : ¬ (14 : Int) ≤ p.toInt := fun q => h2 (Int32.le_iff_toInt_le.mpr (by rw [z]; exact q))
      rw [if_pos (show 0 ≤ p.toInt ∧ p.toInt ≤ 13 by omega)]
      refine XGo.ifn h2 ?_
      refine XGo.go 2 rfl ?_
      exact XGo.iret _ rfl rfl .boolean rfl rfl
theorem k_isYear (d : Nat) (h : XH) (p : Int32) : XCall xM (d + 1) 90 [.int p] h (some (.int (if 0 ≤ p.toInt ∧ p.toInt ≤ 40 then 1 else 0))) h := by
  refine XCall.of (M := xm_X6_isYear) rfl (Nat.le_of_ble_eq_true rfl) ?_
  refine XGo.go 2 rfl ?_
  have z : ((Int8.ofInt 40).toInt32).toInt = 40 := by decide
  by_cases h1 : p < 0
  · have := lt0_iff.mp h1
    rw [if_neg (show ¬ (0 ≤ p.toInt ∧ p.toInt ≤ 40) by omega)]
    refine XGo.ifp h1 ?_
    refine XGo.go 1 rfl ?_
    exact XGo.iret _ rfl rfl .boolean rfl rfl
  · have e1 : ¬ p.toInt < 0 := fun q => h1 (lt0_iff.mpr q)
    refine XGo.ifn h1 ?_
    refine XGo.go 3 rfl ?_
    by_cases h2 : (Int8.ofInt 40).toInt32 < p
    · have := Int32.lt_iff_toInt_lt.mp h2
      rw [if_neg (show ¬ (0 ≤ p.toInt ∧ p.toInt ≤ 40) by omega)]
      refine XGo.ifp h2 ?_
      refine XGo.go 1 rfl ?_
      exact XGo.iret _ rfl rfl .boolean rfl rfl
    · have e2 : ¬ 40 < p.toInt := fun q => h2 (Int32.lt_iff_toInt_lt.mpr (by rw [z]; exact q))
      rw [if_pos (show 0 ≤ p.toInt ∧ p.toInt ≤ 40 by omega)]
      refine XGo.ifn h2 ?_
      refine XGo.go 2 rfl ?_
      exact XGo.iret _ rfl rfl .boolean rfl rfl
theorem k_inI (d : Nat) (h : XH) (p lo hi : Int32) : XCall xM (d + 1) 107 [.int p, .int lo, .int hi] h (some (.int (if lo.toInt ≤ p.toInt ∧ p.toInt ≤ hi.toInt then 1 else 0))) h := by
  refine XCall.of (M := xm_X7_in) rfl (Nat.le_of_ble_eq_true rfl) ?_
  refine XGo.go 3 rfl ?_
  by_cases h1 : p < lo
  · have := Int32.lt_iff_toInt_lt.mp h1
    rw [if_neg (show ¬ (lo.toInt ≤ p.toInt ∧ p.toInt ≤ hi.toInt) by omega)]
    refine XGo.ifp h1 ?_
    refine XGo.go 1 rfl ?_
    exact XGo.iret _ rfl rfl .boolean rfl rfl
  · have e1 : ¬ p.toInt < lo.toInt := fun q => h1 (Int32.lt_iff_toInt_lt.mpr q)
    refine XGo.ifn h1 ?_
    refine XGo.go 3 rfl ?_
    by_cases h2 : hi < p
    · have := Int32.lt_iff_toInt_lt.mp h2
      rw [if_neg (show ¬ (lo.toInt ≤ p.toInt ∧ p.toInt ≤ hi.toInt) by omega)]
      refine XGo.ifp h2 ?_
      refine XGo.go 1 rfl ?_
      exact XGo.iret _ rfl rfl .boolean rfl rfl
    · have e2 : ¬ hi.toInt < p.toInt := fun q => h2 (Int32.lt_iff_toInt_lt.mpr q)
      rw [if_pos (show lo.toInt ≤ p.toInt ∧ p.toInt ≤ hi.toInt by omega)]
      refine XGo.ifn h2 ?_
      refine XGo.go 2 rfl ?_
      exact XGo.iret _ rfl rfl .boolean rfl rfl
/-- how many courses there are -/
abbrev shm (m : Nat) : Int32 := Int32.ofInt 1 <<< (nI m &&& 31)
theorem shm_int : ∀ m : Fin 7, (shm m.val).toInt = (2 : Int) ^ m.val ∧ (shm m.val - Int32.ofInt 1).toInt = (2 : Int) ^ m.val - 1 := by decide +kernel
theorem shm_le : ∀ m : Fin 7, (2 : Int) ^ m.val ≤ 64 := by decide +kernel
abbrev isCo (m : Nat) (c : Int32) : Prop := 0 ≤ c.toInt ∧ c.toInt < (2 : Int) ^ m
theorem k_many (d : Nat) {h : XH} (hI : AInv w_W h) {m : Nat} (h3 : rd h 14 3 = some (.int (nI m))) : XCall xM (d + 1) 93 [.ref 13] h (some (.int (shm m))) h := by
  refine XCall.of (M := xm_X6_coursesThereAre) rfl (Nat.le_of_ble_eq_true rfl) ?_
  refine XGo.go 2 rfl ?_
  refine XGo.getr rfl hI (by decide) (by decide) w_rg_13 k13s (by decide) (r13_0 hI) ?_
  refine XGo.getr rfl hI (by decide) (by decide) w_rg_14 k14s (by decide) h3 ?_
  refine XGo.go 1 rfl ?_
  exact XGo.iret _ rfl rfl .int rfl rfl
theorem k_isCo (d : Nat) {h : XH} (hI : AInv w_W h) {m : Nat} (hm : m ≤ 6) (h3 : rd h 14 3 = some (.int (nI m))) (c : Int32) : XCall xM (d + 2) 92 [.ref 13, .int c] h (some (.int (if isCo m c then 1 else 0))) h := by
  refine XCall.of (M := xm_X6_isCourse) rfl (Nat.le_of_ble_eq_true rfl) ?_
  refine XGo.go 2 rfl ?_
  obtain ⟨fs, h13, -, -, -⟩ := w_lg hI
  have hN : h.1 = 549 := hI.1
  have z := (shm_int ⟨m, by omega⟩).1
  dsimp only at z
  by_cases h1 : c < 0
  · have := lt0_iff.mp h1
    rw [if_neg (show ¬ isCo m c from fun q => by have := q.1; omega)]
    refine XGo.ifp h1 ?_
    refine XGo.go 1 rfl ?_
    exact XGo.iret _ rfl rfl .boolean rfl rfl
  · have e1 : ¬ c.toInt < 0 := fun q => h1 (lt0_iff.mpr q)
    refine XGo.ifn h1 ?_
    refine XGo.go 2 rfl ?_
    refine XGo.call _ rfl xm_X6_coursesThereAre rfl rfl [.ref 13] [.int c] rfl rfl (fun _ => ⟨13, fs, rfl, h13, by decide, by omega⟩) (Nat.le_of_ble_eq_true rfl) (k_many d hI h3) ?_
    refine XGo.go 1 rfl ?_
    by_cases h2 : shm m ≤ c
    · have := Int32.le_iff_toInt_le.mp h2
      rw [if_neg (show ¬ isCo m c from fun q => by have := q.2; omega)]
      refine XGo.ifp h2 ?_
      refine XGo.go 1 rfl ?_
      exact XGo.iret _ rfl rfl .boolean rfl rfl
    · have e2 : ¬ (shm m).toInt ≤ c.toInt := fun q => h2 (Int32.le_iff_toInt_le.mpr q)
      rw [if_pos (show isCo m c from ⟨by omega, by omega⟩)]
      refine XGo.ifn h2 ?_
      refine XGo.go 2 rfl ?_
      exact XGo.iret _ rfl rfl .boolean rfl rfl
theorem k_isCo7 (d : Nat) {h : XH} {fs : List Value} {f : Nat → Int32} (hN : h.1 = 549) (h1 : h.2.2 536 = .inl (7, fs)) (hs : fs[1]? = some (.ref 537)) (h2 : h.2.2 537 = .inr (.inl (0, 490, f))) {m : Nat} (hm : m ≤ 6) (hf1 : f 1 = nI m) (c : Int32) : XCall xM (d + 2) 110 [.ref 536, .int c] h (some (.int (if isCo m c then 1 else 0))) h := by
  refine XCall.of (M := xm_X7_isCourse) rfl (Nat.le_of_ble_eq_true rfl) ?_
  refine XGo.go 4 rfl ?_
  refine XGo.getf rfl (xfd_o h1 (by omega) (by decide) hs) ?_
  refine XGo.go 1 rfl ?_
  refine XGo.iald rfl (xia_i h2 (by omega) (by decide)) ?_
  show XGo _ _ (9, _, [.int (f 1), .int (Int32.ofInt 1), .int (Int32.ofInt 0), .int c], _) _ _
  rw [hf1]
  refine XGo.go 3 rfl ?_
  have q := k_inI d h c (Int32.ofInt 0) (shm m - Int32.ofInt 1)
  have z := (shm_int ⟨m, by omega⟩).2
  dsimp only at z
  have e : ((Int32.ofInt 0).toInt ≤ c.toInt ∧ c.toInt ≤ (shm m - Int32.ofInt 1).toInt) = isCo m c := propext (by
    rw [z, show (Int32.ofInt 0).toInt = 0 by decide]
    exact ⟨fun q => ⟨q.1, by omega⟩, fun q => ⟨q.1, by have := q.2; omega⟩⟩)
  have q2 : XCall xM (d + 1) 107 [.int c, .int (Int32.ofInt 0), .int (shm m - Int32.ofInt 1)] h (some (.int (if isCo m c then 1 else 0))) h := by
    by_cases hc : isCo m c
    · rw [if_pos hc]
      rw [if_pos (by rw [e]; exact hc)] at q
      exact q
    · rw [if_neg hc]
      rw [if_neg (by rw [e]; exact hc)] at q
      exact q
  refine XGo.call _ rfl xm_X7_in rfl rfl [.int c, .int (Int32.ofInt 0), .int (shm m - Int32.ofInt 1)] [] rfl rfl (fun z => absurd rfl z) (Nat.le_of_ble_eq_true rfl) q2 ?_
  exact XGo.iret _ rfl rfl .boolean rfl (by split <;> rfl)
