/-! person of the model -/
theorem nI_sub1 {n : Nat} (hn : n ≤ 8) : (nI n - Int32.ofInt 1).toInt = (n : Int) - 1 := by
  have e : (nI n).toInt = (n : Int) := nI_toInt (by omega)
  have e1 : (Int32.ofInt 1).toInt = 1 := by decide
  rw [i32_sub (by omega) (by omega), e, e1]
theorem xin_pers {n : Nat} (hn : n ≤ 8) (p : Int32) : xin p (Int32.ofInt 0) (nI n - Int32.ofInt 1) = if 0 ≤ p ∧ p < nI n then 1 else 0 := by
  have e : (nI n).toInt = (n : Int) := nI_toInt (by omega)
  have e1 := nI_sub1 hn
  have e0 : (Int32.ofInt 0).toInt = 0 := by decide
  have e9 : (0 : Int32).toInt = 0 := by decide
  unfold xin
  by_cases h1 : p < Int32.ofInt 0
  · have := Int32.lt_iff_toInt_lt.mp h1
    rw [if_pos h1, if_neg (fun q => by have := Int32.le_iff_toInt_le.mp q.1; omega)]
  · have h1' := Int32.le_iff_toInt_le.mp (Int32.not_lt.mp h1)
    rw [if_neg h1]
    by_cases h2 : nI n - Int32.ofInt 1 < p
    · have := Int32.lt_iff_toInt_lt.mp h2
      rw [if_pos h2, if_neg (fun q => by have := Int32.lt_iff_toInt_lt.mp q.2; omega)]
    · have h2' := Int32.le_iff_toInt_le.mp (Int32.not_lt.mp h2)
      rw [if_neg h2, if_pos ⟨Int32.le_iff_toInt_le.mpr (by omega), Int32.lt_iff_toInt_lt.mpr (by omega)⟩]
theorem xin_age (a : Int32) : xin a (Int32.ofInt 0) (Int8.ofInt 90).toInt32 = if a < 0 ∨ ¬ a ≤ (Int8.ofInt 90).toInt32 then 0 else 1 := by
  unfold xin
  by_cases h1 : a < Int32.ofInt 0
  · rw [if_pos h1, if_pos (Or.inl (show a < 0 from h1))]
  · rw [if_neg h1]
    by_cases h2 : (Int8.ofInt 90).toInt32 < a
    · rw [if_pos h2, if_pos (Or.inr (Int32.not_le.mpr h2))]
    · rw [if_neg h2, if_neg (fun z => z.elim h1 (fun z => z (Int32.not_lt.mp h2)))]
/-- person of the model: refused, or at its writing -/
theorem mperson {h : XH} {fs : List Value} {n : Nat} {f : Nat → Int32} (hN : h.1 = 549) (h1 : h.2.2 536 = .inl (7, fs)) (hs : fs[1]? = some (.ref 537)) (h2 : h.2.2 537 = .inr (.inl (0, 490, f))) (h0 : f 0 = nI n) (hn : n ≤ 8) (a p : Int32) {v : Option Value} {hend : XH}
    (hfail : ∀ x, ¬ x = 0 → pcode n (fun i => f (90 + i)) a p = x → v = some (.int x) ∧ hend = h) (hgood : pcode n (fun i => f (90 + i)) a p = 0 → XGo 8 xm_X7_person (71, [some (.ref 536), some (.int a), some (.int p)], [], h) v hend) : XGo 8 xm_X7_person (0, [some (.ref 536), some (.int a), some (.int p)], [], h) v hend := by
  have l1 : 536 < h.1 := by omega
  have l2 : 537 < h.1 := by omega
  have g1 : ∀ {pc len w idx : Nat} {L : XL} {st : List Value}, xfind (xmT xm_X7_person) pc = some (pc, .getfield idx, len, 7, 1, w) → XGo 8 xm_X7_person (pc + 3, L, .ref 537 :: st, h) v hend → XGo 8 xm_X7_person (pc, L, .ref 536 :: st, h) v hend := fun hm k => XGo.getf hm (xfd_o h1 l1 (by decide) hs) k
  have s0 : xia h 0 537 (Int32.ofInt 0) = some (nI n) := by
    rw [← h0]
    exact xia_i h2 l2 (by decide)
  have s57 : (¬ (¬ p = Int32.ofInt (-1) ∧ ¬ (0 ≤ p ∧ p < nI n))) → (¬ (a < 0 ∨ ¬ a ≤ (Int8.ofInt 90).toInt32)) → (¬ (¬ p = Int32.ofInt (-1) ∧ f (90 + p.toNatClampNeg) ≤ a)) → XGo 8 xm_X7_person (57, [some (.ref 536), some (.int a), some (.int p)], [], h) v hend := fun q1 q2 q3 => by
    refine XGo.go 1 rfl ?_
    refine g1 rfl ?_
    refine XGo.go 1 rfl ?_
    refine XGo.iald rfl s0 ?_
    refine XGo.go 2 rfl ?_
    by_cases q4 : nI n = (Int8.ofInt 8).toInt32
    · refine XGo.ifp q4 ?_
      have q5 : 8 ≤ n := (nI_ge8 hn).mp (by rw [q4]; exact Int32.le_refl _)
      obtain ⟨rfl, rfl⟩ := hfail _ (by decide) (pcode_4 q1 q2 q3 q5)
      refine XGo.go 1 rfl ?_
      exact XGo.iret _ rfl rfl .int rfl rfl
    · refine XGo.ifn q4 ?_
      have q5 : ¬ 8 ≤ n := fun z => q4 (by
        have e : n = 8 := by omega
        subst e
        rfl)
      exact hgood (pcode_0 q1 q2 q3 q5)
  have s36 : (¬ (¬ p = Int32.ofInt (-1) ∧ ¬ (0 ≤ p ∧ p < nI n))) → (¬ (a < 0 ∨ ¬ a ≤ (Int8.ofInt 90).toInt32)) → XGo 8 xm_X7_person (36, [some (.ref 536), some (.int a), some (.int p)], [], h) v hend := fun q1 q2 => by
    refine XGo.go 3 rfl ?_
    by_cases hp : p = Int32.ofInt (-1)
    · refine XGo.ifp hp ?_
      exact s57 q1 q2 (fun z => z.1 hp)
    · refine XGo.ifn hp ?_
      have hpb : 0 ≤ p ∧ p < nI n := by
        by_cases z : 0 ≤ p ∧ p < nI n
        · exact z
        · exact absurd ⟨hp, z⟩ q1
      have ep : p = nI p.toNatClampNeg ∧ p.toNatClampNeg < 8 := by
        have e1 := Int32.lt_iff_toInt_lt.mp hpb.2
        have e3 := Int32.le_iff_toInt_le.mp hpb.1
        have e4 : (0 : Int32).toInt = 0 := by decide
        rw [nI_toInt (by omega)] at e1
        have e2 : p.toNatClampNeg = p.toInt.toNat := rfl
        exact ⟨i32_is (by omega) (by omega), by omega⟩
      have sp : xia h 0 537 ((Int8.ofInt 90).toInt32 + p) = some (f (90 + p.toNatClampNeg)) := by
        have e5 : (Int8.ofInt 90).toInt32 + p = nI (90 + p.toNatClampNeg) := by
          rw [← nI_add 90 p.toNatClampNeg, ← ep.1]
          rfl
        rw [e5]
        have := xia_i (i := nI (90 + p.toNatClampNeg)) h2 l2 (fun q => q.elim (xnI_lt0 (by omega)) (fun z => by rw [xnI_nat (by omega)] at z; omega))
        rw [xnI_nat (by omega)] at this
        exact this
      refine XGo.go 2 rfl ?_
      refine g1 rfl ?_
      refine XGo.go 3 rfl ?_
      refine XGo.iald rfl sp ?_
      refine XGo.go 1 rfl ?_
      by_cases q3 : f (90 + p.toNatClampNeg) ≤ a
      · refine XGo.ifn (Int32.not_lt.mpr q3) ?_
        obtain ⟨rfl, rfl⟩ := hfail _ (by decide) (pcode_3 q1 q2 ⟨hp, q3⟩)
        refine XGo.go 1 rfl ?_
        exact XGo.iret _ rfl rfl .int rfl rfl
      · refine XGo.ifp (Int32.not_le.mp q3) ?_
        exact s57 q1 q2 (fun z => q3 z.2)
  have s23 : (¬ (¬ p = Int32.ofInt (-1) ∧ ¬ (0 ≤ p ∧ p < nI n))) → XGo 8 xm_X7_person (23, [some (.ref 536), some (.int a), some (.int p)], [], h) v hend := fun q1 => by
    refine XGo.go 3 rfl ?_
    refine XGo.call _ rfl xm_X7_in rfl rfl [.int a, .int (Int32.ofInt 0), .int (Int8.ofInt 90).toInt32] [] rfl rfl (fun z => absurd rfl z) (Nat.le_of_ble_eq_true rfl) (k_in 7 h _ _ _) ?_
    rw [xin_age]
    by_cases ha : a < 0 ∨ ¬ a ≤ (Int8.ofInt 90).toInt32
    · rw [if_pos ha]
      refine XGo.go 2 rfl ?_
      obtain ⟨rfl, rfl⟩ := hfail _ (by decide) (pcode_2 q1 ha)
      exact XGo.iret _ rfl rfl .int rfl rfl
    · rw [if_neg ha]
      refine XGo.go 1 rfl ?_
      exact s36 q1 ha
  refine XGo.go 3 rfl ?_
  by_cases hp : p = Int32.ofInt (-1)
  · refine XGo.ifp hp ?_
    exact s23 (fun z => z.1 hp)
  · refine XGo.ifn hp ?_
    refine XGo.go 3 rfl ?_
    refine g1 rfl ?_
    refine XGo.go 1 rfl ?_
    refine XGo.iald rfl s0 ?_
    refine XGo.go 2 rfl ?_
    refine XGo.call _ rfl xm_X7_in rfl rfl [.int p, .int (Int32.ofInt 0), .int (nI n - Int32.ofInt 1)] [] rfl rfl (fun z => absurd rfl z) (Nat.le_of_ble_eq_true rfl) (k_in 7 h _ _ _) ?_
    rw [xin_pers hn]
    by_cases hq : 0 ≤ p ∧ p < nI n
    · rw [if_pos hq]
      refine XGo.go 1 rfl ?_
      exact s23 (fun z => z.2 hq)
    · rw [if_neg hq]
      refine XGo.go 2 rfl ?_
      obtain ⟨rfl, rfl⟩ := hfail _ (by decide) (pcode_1 ⟨hp, hq⟩)
      exact XGo.iret _ rfl rfl .int rfl rfl
