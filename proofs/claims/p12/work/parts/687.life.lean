/-! life, the class's side -/
abbrev lfL (p c y w : Int32) (a b : Option Value) : XL := [some (.ref 13), some (.int p), some (.int c), some (.int y), some (.int w), a, b]
/-- what life answers -/
def lcode (n m : Nat) (L : LV) (ag : Nat → Int32) (p c y w : Int32) : Int32 :=
  if ¬ ((0 ≤ p.toInt ∧ p.toInt ≤ 13) ∧ 0 ≤ w.toInt ∧ w.toInt ≤ 2) then Int32.ofInt (-1) else if ¬ (isCo m c ∧ 0 ≤ y.toInt ∧ y.toInt ≤ 40) then (Int8.ofInt (-2)).toInt32 else
  if w = 0 then (if (L.1 p.toNatClampNeg).toInt ≤ y.toInt ∧ y.toInt < (L.2.1 p.toNatClampNeg).toInt then 1 else 0)
  else if w = Int32.ofInt 2 then (if (L.2.2.1 p.toNatClampNeg).toInt ≤ y.toInt then 1 else 0)
  else if (L.1 p.toNatClampNeg).toInt ≤ y.toInt then (if p.toNatClampNeg < 8 then ag p.toNatClampNeg + y else y - L.1 p.toNatClampNeg) else m5
theorem eq0_iff {w : Int32} : w = 0 ↔ w.toInt = 0 := ⟨fun h => by rw [h]; rfl, fun h => Int32.toInt_inj.mp (h.trans z0_int.symm)⟩
theorem life6_a {d : Nat} {h : XH} {p c y w : Int32} {v : Option Value} {hend : XH} (hb : ¬ ((0 ≤ p.toInt ∧ p.toInt ≤ 13) ∧ 0 ≤ w.toInt ∧ w.toInt ≤ 2) → v = some (.int (Int32.ofInt (-1))) ∧ hend = h) (k : (0 ≤ p.toInt ∧ p.toInt ≤ 13) ∧ 0 ≤ w.toInt ∧ w.toInt ≤ 2 → XGo (d + 1) xm_X6_life (20, lfL p c y w none none, [], h) v hend) : XGo (d + 1) xm_X6_life (0, lfL p c y w none none, [], h) v hend := by
  have bad : ∀ q : ¬ ((0 ≤ p.toInt ∧ p.toInt ≤ 13) ∧ 0 ≤ w.toInt ∧ w.toInt ≤ 2), XGo (d + 1) xm_X6_life (18, lfL p c y w none none, [], h) v hend := fun q => by
    obtain ⟨e1, e2⟩ := hb q
    subst e1
    subst e2
    refine XGo.go 1 rfl ?_
    exact XGo.iret _ rfl rfl .int rfl rfl
  have z2 : (Int32.ofInt 2).toInt = 2 := by decide
  refine XGo.go 1 rfl ?_
  refine XGo.call _ rfl xm_X6_isOneOfPeople rfl rfl [.int p] [] rfl rfl (fun z => absurd rfl z) (Nat.le_of_ble_eq_true rfl) (k_isOne d h p) ?_
  by_cases hp : 0 ≤ p.toInt ∧ p.toInt ≤ 13
  · rw [if_pos hp]
    refine XGo.go 1 rfl ?_
    refine XGo.ifn (by decide) ?_
    refine XGo.go 2 rfl ?_
    by_cases h1 : w < 0
    · have := lt0_iff.mp h1
      exact XGo.ifp h1 (bad fun q => by omega)
    · have e1 : ¬ w.toInt < 0 := fun q => h1 (lt0_iff.mpr q)
      refine XGo.ifn h1 ?_
      refine XGo.go 3 rfl ?_
      by_cases h2 : Int32.ofInt 2 < w
      · have := Int32.lt_iff_toInt_lt.mp h2
        exact XGo.ifn (Int32.not_le.mpr h2) (bad fun q => by omega)
      · have e2 : ¬ 2 < w.toInt := fun q => h2 (Int32.lt_iff_toInt_lt.mpr (by rw [z2]; exact q))
        exact XGo.ifp (Int32.not_lt.mp h2) (k ⟨hp, by omega, by omega⟩)
  · rw [if_neg hp]
    refine XGo.go 1 rfl ?_
    exact XGo.ifp rfl (bad fun q => hp q.1)
theorem life6_b {d : Nat} {h : XH} (hI : AInv w_W h) {m : Nat} (hm : m ≤ 6) (h3 : rd h 14 3 = some (.int (nI m))) {p c y w : Int32} {v : Option Value} {hend : XH} (hb : ¬ (isCo m c ∧ 0 ≤ y.toInt ∧ y.toInt ≤ 40) → v = some (.int (Int8.ofInt (-2)).toInt32) ∧ hend = h) (k : isCo m c ∧ 0 ≤ y.toInt ∧ y.toInt ≤ 40 → XGo (d + 2) xm_X6_life (38, lfL p c y w none none, [], h) v hend) : XGo (d + 2) xm_X6_life (20, lfL p c y w none none, [], h) v hend := by
  have bad : ∀ q : ¬ (isCo m c ∧ 0 ≤ y.toInt ∧ y.toInt ≤ 40), XGo (d + 2) xm_X6_life (35, lfL p c y w none none, [], h) v hend := fun q => by
    obtain ⟨e1, e2⟩ := hb q
    subst e1
    subst e2
    refine XGo.go 1 rfl ?_
    exact XGo.iret _ rfl rfl .int rfl rfl
  obtain ⟨fs, h13, -, -, -⟩ := w_lg hI
  have hN : h.1 = 549 := hI.1
  refine XGo.go 2 rfl ?_
  refine XGo.call _ rfl xm_X6_isCourse rfl rfl [.ref 13, .int c] [] rfl rfl (fun _ => ⟨13, fs, rfl, h13, by decide, by omega⟩) (Nat.le_of_ble_eq_true rfl) (k_isCo d hI hm h3 c) ?_
  by_cases hc : isCo m c
  · rw [if_pos hc]
    refine XGo.go 1 rfl ?_
    refine XGo.ifn (by decide) ?_
    refine XGo.go 1 rfl ?_
    refine XGo.call _ rfl xm_X6_isYear rfl rfl [.int y] [] rfl rfl (fun z => absurd rfl z) (Nat.le_of_ble_eq_true rfl) (k_isYear (d + 1) h y) ?_
    by_cases hy : 0 ≤ y.toInt ∧ y.toInt ≤ 40
    · rw [if_pos hy]
      refine XGo.go 1 rfl ?_
      exact XGo.ifn (by decide) (k ⟨hc, hy⟩)
    · rw [if_neg hy]
      refine XGo.go 1 rfl ?_
      exact XGo.ifp rfl (bad fun q => hy q.2)
  · rw [if_neg hc]
    refine XGo.go 1 rfl ?_
    exact XGo.ifp rfl (bad fun q => hc q.1)
