theorem xnat_le {n : Nat} {i : Int32} (hn : n < 2147483648) (h0 : ¬ i < 0) : Int32.ofNat n ≤ i ↔ n ≤ i.toNatClampNeg := by
  rw [Int32.le_iff_toInt_le]
  have h1 : (Int32.ofNat n).toInt = n := nI_toInt hn
  have h2 : (0 : Int) ≤ i.toInt := by
    have := Int32.not_lt.mp h0
    simpa using Int32.le_iff_toInt_le.mp this
  rw [h1]
  show (n : Int) ≤ i.toInt ↔ n ≤ i.toInt.toNat
  omega
/-- LifeGrants.at -/
theorem k_at (d : Nat) (h : XH) (r n : Nat) (f : Nat → Int32) (i : Int32) (hr : h.2.2 r = .inr (.inl (0, n, f))) (hk : r < h.1) (hn : n < 2147483648) : XCall xM (d + 1) 102 [.ref r, .int i] h (some (.int (if i < 0 ∨ n ≤ i.toNatClampNeg then 0 else f i.toNatClampNeg))) h := by
  refine XCall.of (M := xm_X6_at) rfl (Nat.le_of_ble_eq_true rfl) ?_
  refine XGo.go 2 rfl ?_
  by_cases h0 : i < 0
  · refine XGo.ifp h0 ?_
    refine XGo.go 1 rfl ?_
    rw [if_pos (Or.inl h0)]
    exact XGo.iret _ rfl rfl .int rfl rfl
  · refine XGo.ifn h0 ?_
    refine XGo.go 2 rfl ?_
    refine XGo.alen rfl (xlen_i hr hk (by decide)) ?_
    refine XGo.go 1 rfl ?_
    by_cases h1 : n ≤ i.toNatClampNeg
    · refine XGo.ifp ((xnat_le hn h0).mpr h1) ?_
      refine XGo.go 1 rfl ?_
      rw [if_pos (Or.inr h1)]
      exact XGo.iret _ rfl rfl .int rfl rfl
    · refine XGo.ifn (fun q => h1 ((xnat_le hn h0).mp q)) ?_
      refine XGo.go 2 rfl ?_
      have hc : ¬ (i < 0 ∨ n ≤ i.toNatClampNeg) := fun q => q.elim h0 h1
      refine XGo.iald rfl (xia_i hr hk hc) ?_
      refine XGo.go 1 rfl ?_
      rw [if_neg hc]
      exact XGo.iret _ rfl rfl .int rfl rfl
/-- LifeGrants.put -/
theorem k_put (d : Nat) (h : XH) (r n : Nat) (f : Nat → Int32) (i x : Int32) (hr : h.2.2 r = .inr (.inl (0, n, f))) (hk : r < h.1) (h2 : 2 ≤ r) (hn : n < 2147483648) : XCall xM (d + 1) 103 [.ref r, .int i, .int x] h none (if i < 0 ∨ n ≤ i.toNatClampNeg then h else xup h r (.inr (.inl (0, n, upd f i.toNatClampNeg x)))) := by
  refine XCall.of (M := xm_X6_put) rfl (Nat.le_of_ble_eq_true rfl) ?_
  refine XGo.go 1 rfl ?_
  refine XGo.go 1 rfl ?_
  by_cases h0 : i < 0
  · refine XGo.ifp h0 ?_
    rw [if_pos (Or.inl h0)]
    exact XGo.vret _ rfl rfl rfl
  · refine XGo.ifn h0 ?_
    refine XGo.go 2 rfl ?_
    refine XGo.alen rfl (xlen_i hr hk (by decide)) ?_
    refine XGo.go 1 rfl ?_
    by_cases h1 : n ≤ i.toNatClampNeg
    · refine XGo.ifp ((xnat_le hn h0).mpr h1) ?_
      rw [if_pos (Or.inr h1)]
      exact XGo.vret _ rfl rfl rfl
    · refine XGo.ifn (fun q => h1 ((xnat_le hn h0).mp q)) ?_
      have hc : ¬ (i < 0 ∨ n ≤ i.toNatClampNeg) := fun q => q.elim h0 h1
      refine XGo.go 3 rfl ?_
      refine XGo.iast rfl hr hk h2 hc ?_
      rw [if_neg hc]
      exact XGo.vret _ rfl rfl rfl
