/-! life, the model's side -/
abbrev mfL (p c y w : Int32) : XL := [some (.ref 536), some (.int p), some (.int c), some (.int y), some (.int w)]
theorem life7_a {d : Nat} {h : XH} {p c y w : Int32} {v : Option Value} {hend : XH} (hb : ¬ ((0 ≤ p.toInt ∧ p.toInt ≤ 13) ∧ 0 ≤ w.toInt ∧ w.toInt ≤ 2) → v = some (.int (Int32.ofInt (-1))) ∧ hend = h) (k : (0 ≤ p.toInt ∧ p.toInt ≤ 13) ∧ 0 ≤ w.toInt ∧ w.toInt ≤ 2 → XGo (d + 1) xm_X7_life (22, mfL p c y w, [], h) v hend) : XGo (d + 1) xm_X7_life (0, mfL p c y w, [], h) v hend := by
  have bad : ∀ q : ¬ ((0 ≤ p.toInt ∧ p.toInt ≤ 13) ∧ 0 ≤ w.toInt ∧ w.toInt ≤ 2), XGo (d + 1) xm_X7_life (20, mfL p c y w, [], h) v hend := fun q => by
    obtain ⟨e1, e2⟩ := hb q
    subst e1
    subst e2
    refine XGo.go 1 rfl ?_
    exact XGo.iret _ rfl rfl .int rfl rfl
  have z2 : (Int32.ofInt 2).toInt = 2 := by decide
  have z0 : (Int32.ofInt 0).toInt = 0 := by decide
  have z13 : (Int8.ofInt 13).toInt32.toInt = 13 := by decide
  refine XGo.go 3 rfl ?_
  have q1 := k_inI d h p (Int32.ofInt 0) (Int8.ofInt 13).toInt32
  rw [z0, z13] at q1
  refine XGo.call _ rfl xm_X7_in rfl rfl [.int p, .int (Int32.ofInt 0), .int (Int8.ofInt 13).toInt32] [] rfl rfl (fun z => absurd rfl z) (Nat.le_of_ble_eq_true rfl) q1 ?_
  by_cases hp : 0 ≤ p.toInt ∧ p.toInt ≤ 13
  · rw [if_pos hp]
    refine XGo.go 1 rfl ?_
    refine XGo.ifn (by decide) ?_
    refine XGo.go 3 rfl ?_
    have q2 := k_inI d h w (Int32.ofInt 0) (Int32.ofInt 2)
    rw [z0, z2] at q2
    refine XGo.call _ rfl xm_X7_in rfl rfl [.int w, .int (Int32.ofInt 0), .int (Int32.ofInt 2)] [] rfl rfl (fun z => absurd rfl z) (Nat.le_of_ble_eq_true rfl) q2 ?_
    by_cases hw : 0 ≤ w.toInt ∧ w.toInt ≤ 2
    · rw [if_pos hw]
      refine XGo.go 1 rfl ?_
      exact XGo.ifn (by decide) (k ⟨hp, hw⟩)
    · rw [if_neg hw]
      refine XGo.go 1 rfl ?_
      exact XGo.ifp rfl (bad fun q => hw q.2)
  · rw [if_neg hp]
    refine XGo.go 1 rfl ?_
    exact XGo.ifp rfl (bad fun q => hp q.1)
theorem life7_b {d : Nat} {h : XH} {fs : List Value} {f : Nat → Int32} (hK : LVk h fs f) {m : Nat} (hm : m ≤ 6) (hf1 : f 1 = nI m) {p c y w : Int32} {v : Option Value} {hend : XH} (hb : ¬ (isCo m c ∧ 0 ≤ y.toInt ∧ y.toInt ≤ 40) → v = some (.int (Int8.ofInt (-2)).toInt32) ∧ hend = h) (k : isCo m c ∧ 0 ≤ y.toInt ∧ y.toInt ≤ 40 → XGo (d + 2) xm_X7_life (43, mfL p c y w, [], h) v hend) : XGo (d + 2) xm_X7_life (22, mfL p c y w, [], h) v hend := by
  have bad : ∀ q : ¬ (isCo m c ∧ 0 ≤ y.toInt ∧ y.toInt ≤ 40), XGo (d + 2) xm_X7_life (40, mfL p c y w, [], h) v hend := fun q => by
    obtain ⟨e1, e2⟩ := hb q
    subst e1
    subst e2
    refine XGo.go 1 rfl ?_
    exact XGo.iret _ rfl rfl .int rfl rfl
  obtain ⟨hN, h1, h2, hs, -⟩ := hK
  have z0 : (Int32.ofInt 0).toInt = 0 := by decide
  have z40 : (Int8.ofInt 40).toInt32.toInt = 40 := by decide
  refine XGo.go 2 rfl ?_
  refine XGo.call _ rfl xm_X7_isCourse rfl rfl [.ref 536, .int c] [] rfl rfl (fun _ => ⟨536, fs, rfl, h1, by decide, by omega⟩) (Nat.le_of_ble_eq_true rfl) (k_isCo7 d hN h1 hs h2 hm hf1 c) ?_
  by_cases hc : isCo m c
  · rw [if_pos hc]
    refine XGo.go 1 rfl ?_
    refine XGo.ifn (by decide) ?_
    refine XGo.go 3 rfl ?_
    have q1 := k_inI (d + 1) h y (Int32.ofInt 0) (Int8.ofInt 40).toInt32
    rw [z0, z40] at q1
    refine XGo.call _ rfl xm_X7_in rfl rfl [.int y, .int (Int32.ofInt 0), .int (Int8.ofInt 40).toInt32] [] rfl rfl (fun z => absurd rfl z) (Nat.le_of_ble_eq_true rfl) q1 ?_
    by_cases hy : 0 ≤ y.toInt ∧ y.toInt ≤ 40
    · rw [if_pos hy]
      refine XGo.go 1 rfl ?_
      exact XGo.ifn (by decide) (k ⟨hc, hy⟩)
    · rw [if_neg hy]
      refine XGo.go 1 rfl ?_
      exact XGo.ifp rfl (bad fun q => hy q.2)
  · rw [if_neg hc]
    refine XGo.go 1 rfl ?_
    exact XGo.ifp rfl (bad fun q => hc q.1)
theorem ca_in {p : Int32} {n : Nat} (h0 : 0 ≤ p.toInt) (h1 : p.toNatClampNeg < n) : ¬ (p < 0 ∨ n ≤ p.toNatClampNeg) := fun z => z.elim (fun z => by have := lt0_iff.mp z; omega) (fun z => by omega)
theorem lvfld {h : XH} {fs : List Value} {f : Nat → Int32} (hK : LVk h fs f) : xfd h 536 7 4 = some (.ref 539) ∧ xfd h 536 7 5 = some (.ref 540) ∧ xfd h 536 7 6 = some (.ref 541) := by
  obtain ⟨hN, h1, -, -, a, b, c, -⟩ := hK
  exact ⟨(xfd_o h1 (by omega) (by decide) a).1, (xfd_o h1 (by omega) (by decide) b).1, (xfd_o h1 (by omega) (by decide) c).1⟩
theorem k_alive (d : Nat) {h : XH} {fs : List Value} {f : Nat → Int32} (hK : LVk h fs f) {s : LV} (hs : LVr h s) {p y : Int32} (h0 : 0 ≤ p.toInt) (h1 : p.toNatClampNeg < 14) : XCall xM (d + 1) 117 [.ref 536, .int p, .int y] h (some (.int (if (s.1 p.toNatClampNeg).toInt ≤ y.toInt ∧ y.toInt < (s.2.1 p.toNatClampNeg).toInt then 1 else 0))) h := by
  obtain ⟨g4, g5, -⟩ := lvfld hK
  have hN := hK.1
  refine XCall.of (M := xm_X7_isAlive) rfl (Nat.le_of_ble_eq_true rfl) ?_
  refine XGo.go 1 rfl ?_
  refine XGo.getf rfl ⟨g4, by decide⟩ ?_
  refine XGo.go 1 rfl ?_
  refine XGo.iald rfl (xia_i hs.1 (by omega) (ca_in h0 h1)) ?_
  refine XGo.go 2 rfl ?_
  by_cases a : y < s.1 p.toNatClampNeg
  · have := Int32.lt_iff_toInt_lt.mp a
    rw [if_neg (show ¬ ((s.1 p.toNatClampNeg).toInt ≤ y.toInt ∧ y.toInt < (s.2.1 p.toNatClampNeg).toInt) by omega)]
    refine XGo.ifp a ?_
    refine XGo.go 1 rfl ?_
    exact XGo.iret _ rfl rfl .boolean rfl rfl
  · have a1 := Int32.le_iff_toInt_le.mp (Int32.not_lt.mp a)
    refine XGo.ifn a ?_
    refine XGo.go 1 rfl ?_
    refine XGo.getf rfl ⟨g5, by decide⟩ ?_
    refine XGo.go 1 rfl ?_
    refine XGo.iald rfl (xia_i hs.2.1 (by omega) (ca_in h0 h1)) ?_
    refine XGo.go 2 rfl ?_
    by_cases b : s.2.1 p.toNatClampNeg ≤ y
    · have := Int32.le_iff_toInt_le.mp b
      rw [if_neg (show ¬ ((s.1 p.toNatClampNeg).toInt ≤ y.toInt ∧ y.toInt < (s.2.1 p.toNatClampNeg).toInt) by omega)]
      refine XGo.ifp b ?_
      refine XGo.go 1 rfl ?_
      exact XGo.iret _ rfl rfl .boolean rfl rfl
    · have b1 := Int32.lt_iff_toInt_lt.mp (Int32.not_le.mp b)
      rw [if_pos (show (s.1 p.toNatClampNeg).toInt ≤ y.toInt ∧ y.toInt < (s.2.1 p.toNatClampNeg).toInt by omega)]
      refine XGo.ifn b ?_
      refine XGo.go 2 rfl ?_
      exact XGo.iret _ rfl rfl .boolean rfl rfl
theorem k_age (d : Nat) {h : XH} {fs : List Value} {f : Nat → Int32} (hK : LVk h fs f) {s : LV} (hs : LVr h s) {p y : Int32} (h0 : 0 ≤ p.toInt) (h1 : p.toNatClampNeg < 14) (ep : p = nI p.toNatClampNeg) : XCall xM (d + 1) 118 [.ref 536, .int p, .int y] h (some (.int (if p.toNatClampNeg < 8 then f (90 + p.toNatClampNeg) + y else y - s.1 p.toNatClampNeg))) h := by
  obtain ⟨g4, g5, -⟩ := lvfld hK
  have hN := hK.1
  have tp : (p.toNatClampNeg : Int) = p.toInt := by
    have := congrArg Int32.toInt ep
    rw [nI_toInt (by omega)] at this
    exact this.symm
  have z8 : (Int8.ofInt 8).toInt32.toInt = 8 := by decide
  refine XCall.of (M := xm_X7_ageOf) rfl (Nat.le_of_ble_eq_true rfl) ?_
  refine XGo.go 3 rfl ?_
  by_cases a : (Int8.ofInt 8).toInt32 ≤ p
  · have := Int32.le_iff_toInt_le.mp a
    rw [if_neg (show ¬ p.toNatClampNeg < 8 by omega)]
    refine XGo.ifp a ?_
    refine XGo.go 2 rfl ?_
    refine XGo.getf rfl ⟨g4, by decide⟩ ?_
    refine XGo.go 1 rfl ?_
    refine XGo.iald rfl (xia_i hs.1 (by omega) (ca_in h0 h1)) ?_
    refine XGo.go 1 rfl ?_
    exact XGo.iret _ rfl rfl .int rfl rfl
  · have a1 : ¬ 8 ≤ p.toInt := fun q => a (Int32.le_iff_toInt_le.mpr (by rw [z8]; exact q))
    rw [if_pos (show p.toNatClampNeg < 8 by omega)]
    refine XGo.ifn a ?_
    refine XGo.go 1 rfl ?_
    refine XGo.getf rfl (xfd_o hK.2.1 (by omega) (by decide) hK.2.2.2.1) ?_
    refine XGo.go 3 rfl ?_
    show XGo _ _ (14, _, [.int ((Int8.ofInt 90).toInt32 + p), .ref 537], _) _ _
    rw [show (Int8.ofInt 90).toInt32 + p = nI (90 + p.toNatClampNeg) by rw [ep]; exact (by rw [xnI_nat (by omega)]; exact nI_add 90 _)]
    refine XGo.iald rfl (xia_i hK.2.2.1 (by omega) (ca_nI (by omega) (by decide))) ?_
    rw [xnI_nat (by omega)]
    refine XGo.go 3 rfl ?_
    exact XGo.iret _ rfl rfl .int rfl rfl
