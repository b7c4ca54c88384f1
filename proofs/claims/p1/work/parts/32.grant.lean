theorem g_X3_next (d : Nat) (g : Nat → XE) : XCall xM (d + 1) 41 [.ref 68] (xh0 g) (some (.int (-1))) (xh0 g) := by
  refine XCall.of (M := xm_X3_next) rfl (Nat.le_of_ble_eq_true rfl) (XGp.of ?_)
  refine XGp.go 3 rfl ?_
  refine XGp.ifn (by decide) ?_
  refine XGp.go 5 rfl ?_
  refine XGp.ifp (by decide) ?_
  refine XGp.go 1 rfl ?_
  exact XGp.iret _ rfl rfl .int rfl rfl rfl rfl
theorem g_X3_readWho (d : Nat) (g : Nat → XE) : XCall xM (d + 2) 33 [.ref 68, .int ((0))] (xh0 g) (some (.int (0))) (xh0 g) := by
  refine XCall.of (M := xm_X3_readWho) rfl (Nat.le_of_ble_eq_true rfl) (XGp.of ?_)
  refine XGp.go 1 rfl ?_
  refine XGp.callx [.ref 68] _ _ rfl xm_X3_next rfl rfl rfl rfl (fun _ => ⟨68, _, rfl, rfl, Nat.le_of_ble_eq_true rfl, Nat.le_of_ble_eq_true rfl⟩) (Nat.le_of_ble_eq_true rfl) (g_X3_next _ g) ?_
  refine XGp.go 4 rfl ?_
  refine XGp.ifn (by decide) ?_
  refine XGp.go 3 rfl ?_
  refine XGp.ifn (by decide) ?_
  refine XGp.go 3 rfl ?_
  refine XGp.ifn (by decide) ?_
  refine XGp.go 1 rfl ?_
  exact XGp.iret _ rfl rfl .boolean rfl rfl rfl rfl
theorem g_X3_readClause (d : Nat) (g : Nat → XE) : XCall xM (d + 3) 32 [.ref 68, .int ((0))] (xh0 g) (some (.int (0))) (xh0 g) := by
  refine XCall.of (M := xm_X3_readClause) rfl (Nat.le_of_ble_eq_true rfl) (XGp.of ?_)
  refine XGp.go 2 rfl ?_
  refine XGp.ifp (by decide) ?_
  refine XGp.go 2 rfl ?_
  refine XGp.callx [.ref 68, .int ((0))] _ _ rfl xm_X3_readWho rfl rfl rfl rfl (fun _ => ⟨68, _, rfl, rfl, Nat.le_of_ble_eq_true rfl, Nat.le_of_ble_eq_true rfl⟩) (Nat.le_of_ble_eq_true rfl) (g_X3_readWho _ g) ?_
  refine XGp.go 1 rfl ?_
  refine XGp.ifp (by decide) ?_
  refine XGp.go 1 rfl ?_
  exact XGp.iret _ rfl rfl .boolean rfl rfl rfl rfl
theorem g_X1_clear (d : Nat) (g : Nat → XE) : XCall xM (d + 2) 11 [.ref 69] (xh0 g) none (xh0 g) := by
  refine XCall.of (M := xm_X1_clear) rfl (Nat.le_of_ble_eq_true rfl) (XGp.of ?_)
  refine XGp.go 2 rfl ?_
  refine XGp.putf rfl rfl (Nat.le_of_ble_eq_true rfl) (Nat.le_of_ble_eq_true rfl) (Nat.le_of_ble_eq_true rfl) rfl rfl ?_
  refine XGp.same rfl ?_
  refine XGp.go 3 rfl ?_
  refine XGp.callx [.ref 70, .int _] _ _ rfl xm_X6_fill rfl rfl rfl rfl (fun q => absurd rfl q) (Nat.le_of_ble_eq_true rfl) (k_fill0 _ _ _ _ rfl (Nat.le_of_ble_eq_true rfl) (Nat.le_of_ble_eq_true rfl) (by decide)) ?_
  refine XGp.go 3 rfl ?_
  refine XGp.callx [.ref 71, .int _] _ _ rfl xm_X6_fill rfl rfl rfl rfl (fun q => absurd rfl q) (Nat.le_of_ble_eq_true rfl) (k_fill0 _ _ _ _ rfl (Nat.le_of_ble_eq_true rfl) (Nat.le_of_ble_eq_true rfl) (by decide)) ?_
  exact XGp.vret _ rfl rfl rfl rfl
theorem g_X3_read (d : Nat) (g : Nat → XE) : XCall xM (d + 4) 31 [.ref 68, .ref 10, .int ((0))] (xh0 g) (some (.int (0))) (xh0 g) := by
  refine XCall.of (M := xm_X3_read) rfl (Nat.le_of_ble_eq_true rfl) (XGp.of ?_)
  refine XGp.go 3 rfl ?_
  refine XGp.callx [.ref 10, .ref 72] _ _ rfl xm_X6_copy rfl rfl rfl rfl (fun q => absurd rfl q) (Nat.le_of_ble_eq_true rfl) (k_copy0 _ _ _ _ _ rfl rfl (Nat.le_of_ble_eq_true rfl) (Nat.le_of_ble_eq_true rfl) (Nat.le_of_ble_eq_true rfl) (Nat.le_of_ble_eq_true rfl) (by decide)) ?_
  refine XGp.go 2 rfl ?_
  refine XGp.putf rfl rfl (Nat.le_of_ble_eq_true rfl) (Nat.le_of_ble_eq_true rfl) (Nat.le_of_ble_eq_true rfl) rfl rfl ?_
  refine XGp.same rfl ?_
  refine XGp.go 2 rfl ?_
  refine XGp.putf rfl rfl (Nat.le_of_ble_eq_true rfl) (Nat.le_of_ble_eq_true rfl) (Nat.le_of_ble_eq_true rfl) rfl rfl ?_
  refine XGp.same rfl ?_
  refine XGp.go 2 rfl ?_
  refine XGp.callx [.ref 69] _ _ rfl xm_X1_clear rfl rfl rfl rfl (fun _ => ⟨69, _, rfl, rfl, Nat.le_of_ble_eq_true rfl, Nat.le_of_ble_eq_true rfl⟩) (Nat.le_of_ble_eq_true rfl) (g_X1_clear _ g) ?_
  refine XGp.go 5 rfl ?_
  refine XGp.ifn (by decide) ?_
  refine XGp.go 2 rfl ?_
  refine XGp.callx [.ref 68, .int (Int32.ofInt (0))] _ _ rfl xm_X3_readClause rfl rfl rfl rfl (fun _ => ⟨68, _, rfl, rfl, Nat.le_of_ble_eq_true rfl, Nat.le_of_ble_eq_true rfl⟩) (Nat.le_of_ble_eq_true rfl) (g_X3_readClause _ g) ?_
  refine XGp.go 1 rfl ?_
  refine XGp.ifp (by decide) ?_
  refine XGp.go 2 rfl ?_
  exact XGp.iret _ rfl rfl .int rfl rfl rfl rfl
theorem f_c_grant (d : Nat) (g : Nat → XE) : XCp (d + 5) 66 [.ref 2] (xh0 g) (some (.int (-10))) (xP g) := by
  refine XCp.of (M := xm_X6_grant) rfl (Nat.le_of_ble_eq_true rfl) ?_
  refine XGp.go 5 rfl ?_
  refine XGp.ifp (by decide) ?_
  refine XGp.go 8 rfl ?_
  refine XGp.callx [.ref 68, .ref 10, .int (0)] _ _ rfl xm_X3_read rfl rfl rfl rfl (fun _ => ⟨68, _, rfl, rfl, Nat.le_of_ble_eq_true rfl, Nat.le_of_ble_eq_true rfl⟩) (Nat.le_of_ble_eq_true rfl) (g_X3_read _ g) ?_
  refine XGp.go 4 rfl ?_
  refine XGp.putf rfl rfl (Nat.le_of_ble_eq_true rfl) (Nat.le_of_ble_eq_true rfl) (Nat.le_of_ble_eq_true rfl) rfl rfl ?_
  refine XGp.same rfl ?_
  refine XGp.go 2 rfl ?_
  refine XGp.ifn (by decide) ?_
  refine XGp.go 4 rfl ?_
  exact XGp.iret _ rfl rfl .int rfl rfl (rfl) (by repeat (first | exact xP_0 _ | refine xP_up (Nat.le_of_ble_eq_true rfl) ?_))
theorem g_rep0 (d : Nat) (g : Nat → XE) : XCall xM (d + 2) 12 [.ref 41, .ref 13] (xh0 g) none (xh0 g) := by
  refine XCall.of (M := xm_X1_repeat) rfl (Nat.le_of_ble_eq_true rfl) (XGp.of ?_)
  refine XGp.go 3 rfl ?_
  refine XGp.putf rfl rfl (Nat.le_of_ble_eq_true rfl) (Nat.le_of_ble_eq_true rfl) (Nat.le_of_ble_eq_true rfl) rfl rfl ?_
  refine XGp.same rfl ?_
  refine XGp.go 4 rfl ?_
  refine XGp.callx [.ref 14, .ref 42] _ _ rfl xm_X6_copy rfl rfl rfl rfl (fun q => absurd rfl q) (Nat.le_of_ble_eq_true rfl) (k_copy0 _ _ _ _ _ rfl rfl (Nat.le_of_ble_eq_true rfl) (Nat.le_of_ble_eq_true rfl) (Nat.le_of_ble_eq_true rfl) (Nat.le_of_ble_eq_true rfl) (by decide)) ?_
  refine XGp.go 4 rfl ?_
  refine XGp.callx [.ref 15, .ref 43] _ _ rfl xm_X6_copy rfl rfl rfl rfl (fun q => absurd rfl q) (Nat.le_of_ble_eq_true rfl) (k_copy0 _ _ _ _ _ rfl rfl (Nat.le_of_ble_eq_true rfl) (Nat.le_of_ble_eq_true rfl) (Nat.le_of_ble_eq_true rfl) (Nat.le_of_ble_eq_true rfl) (by decide)) ?_
  exact XGp.vret _ rfl rfl rfl rfl
theorem g_rep1 (d : Nat) (g : Nat → XE) : XCall xM (d + 2) 12 [.ref 44, .ref 16] (xh0 g) none (xh0 g) := by
  refine XCall.of (M := xm_X1_repeat) rfl (Nat.le_of_ble_eq_true rfl) (XGp.of ?_)
  refine XGp.go 3 rfl ?_
  refine XGp.putf rfl rfl (Nat.le_of_ble_eq_true rfl) (Nat.le_of_ble_eq_true rfl) (Nat.le_of_ble_eq_true rfl) rfl rfl ?_
  refine XGp.same rfl ?_
  refine XGp.go 4 rfl ?_
  refine XGp.callx [.ref 17, .ref 45] _ _ rfl xm_X6_copy rfl rfl rfl rfl (fun q => absurd rfl q) (Nat.le_of_ble_eq_true rfl) (k_copy0 _ _ _ _ _ rfl rfl (Nat.le_of_ble_eq_true rfl) (Nat.le_of_ble_eq_true rfl) (Nat.le_of_ble_eq_true rfl) (Nat.le_of_ble_eq_true rfl) (by decide)) ?_
  refine XGp.go 4 rfl ?_
  refine XGp.callx [.ref 18, .ref 46] _ _ rfl xm_X6_copy rfl rfl rfl rfl (fun q => absurd rfl q) (Nat.le_of_ble_eq_true rfl) (k_copy0 _ _ _ _ _ rfl rfl (Nat.le_of_ble_eq_true rfl) (Nat.le_of_ble_eq_true rfl) (Nat.le_of_ble_eq_true rfl) (Nat.le_of_ble_eq_true rfl) (by decide)) ?_
  exact XGp.vret _ rfl rfl rfl rfl
theorem g_rep2 (d : Nat) (g : Nat → XE) : XCall xM (d + 2) 12 [.ref 47, .ref 19] (xh0 g) none (xh0 g) := by
  refine XCall.of (M := xm_X1_repeat) rfl (Nat.le_of_ble_eq_true rfl) (XGp.of ?_)
  refine XGp.go 3 rfl ?_
  refine XGp.putf rfl rfl (Nat.le_of_ble_eq_true rfl) (Nat.le_of_ble_eq_true rfl) (Nat.le_of_ble_eq_true rfl) rfl rfl ?_
  refine XGp.same rfl ?_
  refine XGp.go 4 rfl ?_
  refine XGp.callx [.ref 20, .ref 48] _ _ rfl xm_X6_copy rfl rfl rfl rfl (fun q => absurd rfl q) (Nat.le_of_ble_eq_true rfl) (k_copy0 _ _ _ _ _ rfl rfl (Nat.le_of_ble_eq_true rfl) (Nat.le_of_ble_eq_true rfl) (Nat.le_of_ble_eq_true rfl) (Nat.le_of_ble_eq_true rfl) (by decide)) ?_
  refine XGp.go 4 rfl ?_
  refine XGp.callx [.ref 21, .ref 49] _ _ rfl xm_X6_copy rfl rfl rfl rfl (fun q => absurd rfl q) (Nat.le_of_ble_eq_true rfl) (k_copy0 _ _ _ _ _ rfl rfl (Nat.le_of_ble_eq_true rfl) (Nat.le_of_ble_eq_true rfl) (Nat.le_of_ble_eq_true rfl) (Nat.le_of_ble_eq_true rfl) (by decide)) ?_
  exact XGp.vret _ rfl rfl rfl rfl
theorem g_rep3 (d : Nat) (g : Nat → XE) : XCall xM (d + 2) 12 [.ref 50, .ref 22] (xh0 g) none (xh0 g) := by
  refine XCall.of (M := xm_X1_repeat) rfl (Nat.le_of_ble_eq_true rfl) (XGp.of ?_)
  refine XGp.go 3 rfl ?_
  refine XGp.putf rfl rfl (Nat.le_of_ble_eq_true rfl) (Nat.le_of_ble_eq_true rfl) (Nat.le_of_ble_eq_true rfl) rfl rfl ?_
  refine XGp.same rfl ?_
  refine XGp.go 4 rfl ?_
  refine XGp.callx [.ref 23, .ref 51] _ _ rfl xm_X6_copy rfl rfl rfl rfl (fun q => absurd rfl q) (Nat.le_of_ble_eq_true rfl) (k_copy0 _ _ _ _ _ rfl rfl (Nat.le_of_ble_eq_true rfl) (Nat.le_of_ble_eq_true rfl) (Nat.le_of_ble_eq_true rfl) (Nat.le_of_ble_eq_true rfl) (by decide)) ?_
  refine XGp.go 4 rfl ?_
  refine XGp.callx [.ref 24, .ref 52] _ _ rfl xm_X6_copy rfl rfl rfl rfl (fun q => absurd rfl q) (Nat.le_of_ble_eq_true rfl) (k_copy0 _ _ _ _ _ rfl rfl (Nat.le_of_ble_eq_true rfl) (Nat.le_of_ble_eq_true rfl) (Nat.le_of_ble_eq_true rfl) (Nat.le_of_ble_eq_true rfl) (by decide)) ?_
  exact XGp.vret _ rfl rfl rfl rfl
theorem g_rep4 (d : Nat) (g : Nat → XE) : XCall xM (d + 2) 12 [.ref 53, .ref 25] (xh0 g) none (xh0 g) := by
  refine XCall.of (M := xm_X1_repeat) rfl (Nat.le_of_ble_eq_true rfl) (XGp.of ?_)
  refine XGp.go 3 rfl ?_
  refine XGp.putf rfl rfl (Nat.le_of_ble_eq_true rfl) (Nat.le_of_ble_eq_true rfl) (Nat.le_of_ble_eq_true rfl) rfl rfl ?_
  refine XGp.same rfl ?_
  refine XGp.go 4 rfl ?_
  refine XGp.callx [.ref 26, .ref 54] _ _ rfl xm_X6_copy rfl rfl rfl rfl (fun q => absurd rfl q) (Nat.le_of_ble_eq_true rfl) (k_copy0 _ _ _ _ _ rfl rfl (Nat.le_of_ble_eq_true rfl) (Nat.le_of_ble_eq_true rfl) (Nat.le_of_ble_eq_true rfl) (Nat.le_of_ble_eq_true rfl) (by decide)) ?_
  refine XGp.go 4 rfl ?_
  refine XGp.callx [.ref 27, .ref 55] _ _ rfl xm_X6_copy rfl rfl rfl rfl (fun q => absurd rfl q) (Nat.le_of_ble_eq_true rfl) (k_copy0 _ _ _ _ _ rfl rfl (Nat.le_of_ble_eq_true rfl) (Nat.le_of_ble_eq_true rfl) (Nat.le_of_ble_eq_true rfl) (Nat.le_of_ble_eq_true rfl) (by decide)) ?_
  exact XGp.vret _ rfl rfl rfl rfl
theorem g_rep5 (d : Nat) (g : Nat → XE) : XCall xM (d + 2) 12 [.ref 56, .ref 28] (xh0 g) none (xh0 g) := by
  refine XCall.of (M := xm_X1_repeat) rfl (Nat.le_of_ble_eq_true rfl) (XGp.of ?_)
  refine XGp.go 3 rfl ?_
  refine XGp.putf rfl rfl (Nat.le_of_ble_eq_true rfl) (Nat.le_of_ble_eq_true rfl) (Nat.le_of_ble_eq_true rfl) rfl rfl ?_
  refine XGp.same rfl ?_
  refine XGp.go 4 rfl ?_
  refine XGp.callx [.ref 29, .ref 57] _ _ rfl xm_X6_copy rfl rfl rfl rfl (fun q => absurd rfl q) (Nat.le_of_ble_eq_true rfl) (k_copy0 _ _ _ _ _ rfl rfl (Nat.le_of_ble_eq_true rfl) (Nat.le_of_ble_eq_true rfl) (Nat.le_of_ble_eq_true rfl) (Nat.le_of_ble_eq_true rfl) (by decide)) ?_
  refine XGp.go 4 rfl ?_
  refine XGp.callx [.ref 30, .ref 58] _ _ rfl xm_X6_copy rfl rfl rfl rfl (fun q => absurd rfl q) (Nat.le_of_ble_eq_true rfl) (k_copy0 _ _ _ _ _ rfl rfl (Nat.le_of_ble_eq_true rfl) (Nat.le_of_ble_eq_true rfl) (Nat.le_of_ble_eq_true rfl) (Nat.le_of_ble_eq_true rfl) (by decide)) ?_
  exact XGp.vret _ rfl rfl rfl rfl
theorem g_X5_become (d : Nat) (g : Nat → XE) : XCall xM (d + 3) 54 [.ref 31, .ref 3] (xh0 g) none (xh0 g) := by
  refine XCall.of (M := xm_X5_become) rfl (Nat.le_of_ble_eq_true rfl) (XGp.of ?_)
  refine XGp.go 3 rfl ?_
  refine XGp.putf rfl rfl (Nat.le_of_ble_eq_true rfl) (Nat.le_of_ble_eq_true rfl) (Nat.le_of_ble_eq_true rfl) rfl rfl ?_
  refine XGp.same rfl ?_
  refine XGp.go 4 rfl ?_
  refine XGp.callx [.ref 4, .ref 32] _ _ rfl xm_X6_copy rfl rfl rfl rfl (fun q => absurd rfl q) (Nat.le_of_ble_eq_true rfl) (k_copy0 _ _ _ _ _ rfl rfl (Nat.le_of_ble_eq_true rfl) (Nat.le_of_ble_eq_true rfl) (Nat.le_of_ble_eq_true rfl) (Nat.le_of_ble_eq_true rfl) (by decide)) ?_
  refine XGp.go 4 rfl ?_
  refine XGp.callx [.ref 5, .ref 33] _ _ rfl xm_X6_copy rfl rfl rfl rfl (fun q => absurd rfl q) (Nat.le_of_ble_eq_true rfl) (k_copy0 _ _ _ _ _ rfl rfl (Nat.le_of_ble_eq_true rfl) (Nat.le_of_ble_eq_true rfl) (Nat.le_of_ble_eq_true rfl) (Nat.le_of_ble_eq_true rfl) (by decide)) ?_
  refine XGp.go 3 rfl ?_
  refine XGp.putf rfl rfl (Nat.le_of_ble_eq_true rfl) (Nat.le_of_ble_eq_true rfl) (Nat.le_of_ble_eq_true rfl) rfl rfl ?_
  refine XGp.same rfl ?_
  refine XGp.go 4 rfl ?_
  refine XGp.callx [.ref 6, .ref 34] _ _ rfl xm_X6_copy rfl rfl rfl rfl (fun q => absurd rfl q) (Nat.le_of_ble_eq_true rfl) (k_copy0 _ _ _ _ _ rfl rfl (Nat.le_of_ble_eq_true rfl) (Nat.le_of_ble_eq_true rfl) (Nat.le_of_ble_eq_true rfl) (Nat.le_of_ble_eq_true rfl) (by decide)) ?_
  refine XGp.go 4 rfl ?_
  refine XGp.callx [.ref 7, .ref 35] _ _ rfl xm_X6_copy rfl rfl rfl rfl (fun q => absurd rfl q) (Nat.le_of_ble_eq_true rfl) (k_copy0 _ _ _ _ _ rfl rfl (Nat.le_of_ble_eq_true rfl) (Nat.le_of_ble_eq_true rfl) (Nat.le_of_ble_eq_true rfl) (Nat.le_of_ble_eq_true rfl) (by decide)) ?_
  refine XGp.go 4 rfl ?_
  refine XGp.callx [.ref 8, .ref 36] _ _ rfl xm_X6_copy rfl rfl rfl rfl (fun q => absurd rfl q) (Nat.le_of_ble_eq_true rfl) (k_copy0 _ _ _ _ _ rfl rfl (Nat.le_of_ble_eq_true rfl) (Nat.le_of_ble_eq_true rfl) (Nat.le_of_ble_eq_true rfl) (Nat.le_of_ble_eq_true rfl) (by decide)) ?_
  refine XGp.go 3 rfl ?_
  refine XGp.putf rfl rfl (Nat.le_of_ble_eq_true rfl) (Nat.le_of_ble_eq_true rfl) (Nat.le_of_ble_eq_true rfl) rfl rfl ?_
  refine XGp.same rfl ?_
  refine XGp.go 5 rfl ?_
  refine XGp.ifn (by decide) ?_
  refine XGp.go 8 rfl ?_
  refine XGp.callx [.ref 41, .ref 13] _ _ rfl xm_X1_repeat rfl rfl rfl rfl (fun _ => ⟨41, _, rfl, rfl, Nat.le_of_ble_eq_true rfl, Nat.le_of_ble_eq_true rfl⟩) (Nat.le_of_ble_eq_true rfl) (g_rep0 _ g) ?_
  refine XGp.go 5 rfl ?_
  refine XGp.ifn (by decide) ?_
  refine XGp.go 8 rfl ?_
  refine XGp.callx [.ref 44, .ref 16] _ _ rfl xm_X1_repeat rfl rfl rfl rfl (fun _ => ⟨44, _, rfl, rfl, Nat.le_of_ble_eq_true rfl, Nat.le_of_ble_eq_true rfl⟩) (Nat.le_of_ble_eq_true rfl) (g_rep1 _ g) ?_
  refine XGp.go 5 rfl ?_
  refine XGp.ifn (by decide) ?_
  refine XGp.go 8 rfl ?_
  refine XGp.callx [.ref 47, .ref 19] _ _ rfl xm_X1_repeat rfl rfl rfl rfl (fun _ => ⟨47, _, rfl, rfl, Nat.le_of_ble_eq_true rfl, Nat.le_of_ble_eq_true rfl⟩) (Nat.le_of_ble_eq_true rfl) (g_rep2 _ g) ?_
  refine XGp.go 5 rfl ?_
  refine XGp.ifn (by decide) ?_
  refine XGp.go 8 rfl ?_
  refine XGp.callx [.ref 50, .ref 22] _ _ rfl xm_X1_repeat rfl rfl rfl rfl (fun _ => ⟨50, _, rfl, rfl, Nat.le_of_ble_eq_true rfl, Nat.le_of_ble_eq_true rfl⟩) (Nat.le_of_ble_eq_true rfl) (g_rep3 _ g) ?_
  refine XGp.go 5 rfl ?_
  refine XGp.ifn (by decide) ?_
  refine XGp.go 8 rfl ?_
  refine XGp.callx [.ref 53, .ref 25] _ _ rfl xm_X1_repeat rfl rfl rfl rfl (fun _ => ⟨53, _, rfl, rfl, Nat.le_of_ble_eq_true rfl, Nat.le_of_ble_eq_true rfl⟩) (Nat.le_of_ble_eq_true rfl) (g_rep4 _ g) ?_
  refine XGp.go 5 rfl ?_
  refine XGp.ifn (by decide) ?_
  refine XGp.go 8 rfl ?_
  refine XGp.callx [.ref 56, .ref 28] _ _ rfl xm_X1_repeat rfl rfl rfl rfl (fun _ => ⟨56, _, rfl, rfl, Nat.le_of_ble_eq_true rfl, Nat.le_of_ble_eq_true rfl⟩) (Nat.le_of_ble_eq_true rfl) (g_rep5 _ g) ?_
  refine XGp.go 5 rfl ?_
  refine XGp.ifp (by decide) ?_
  refine XGp.go 3 rfl ?_
  refine XGp.putf rfl rfl (Nat.le_of_ble_eq_true rfl) (Nat.le_of_ble_eq_true rfl) (Nat.le_of_ble_eq_true rfl) rfl rfl ?_
  refine XGp.same rfl ?_
  refine XGp.go 4 rfl ?_
  refine XGp.callx [.ref 10, .ref 38] _ _ rfl xm_X6_copy rfl rfl rfl rfl (fun q => absurd rfl q) (Nat.le_of_ble_eq_true rfl) (k_copy0 _ _ _ _ _ rfl rfl (Nat.le_of_ble_eq_true rfl) (Nat.le_of_ble_eq_true rfl) (Nat.le_of_ble_eq_true rfl) (Nat.le_of_ble_eq_true rfl) (by decide)) ?_
  refine XGp.go 3 rfl ?_
  refine XGp.putf rfl rfl (Nat.le_of_ble_eq_true rfl) (Nat.le_of_ble_eq_true rfl) (Nat.le_of_ble_eq_true rfl) rfl rfl ?_
  refine XGp.same rfl ?_
  refine XGp.go 4 rfl ?_
  refine XGp.callx [.ref 11, .ref 39] _ _ rfl xm_X6_copy rfl rfl rfl rfl (fun q => absurd rfl q) (Nat.le_of_ble_eq_true rfl) (k_copy0 _ _ _ _ _ rfl rfl (Nat.le_of_ble_eq_true rfl) (Nat.le_of_ble_eq_true rfl) (Nat.le_of_ble_eq_true rfl) (Nat.le_of_ble_eq_true rfl) (by decide)) ?_
  refine XGp.go 3 rfl ?_
  refine XGp.putf rfl rfl (Nat.le_of_ble_eq_true rfl) (Nat.le_of_ble_eq_true rfl) (Nat.le_of_ble_eq_true rfl) rfl rfl ?_
  refine XGp.same rfl ?_
  refine XGp.go 4 rfl ?_
  refine XGp.callx [.ref 12, .ref 40] _ _ rfl xm_X6_copy rfl rfl rfl rfl (fun q => absurd rfl q) (Nat.le_of_ble_eq_true rfl) (k_copy0 _ _ _ _ _ rfl rfl (Nat.le_of_ble_eq_true rfl) (Nat.le_of_ble_eq_true rfl) (Nat.le_of_ble_eq_true rfl) (Nat.le_of_ble_eq_true rfl) (by decide)) ?_
  exact XGp.vret _ rfl rfl rfl rfl
theorem f_c_image (d : Nat) (g : Nat → XE) : XCp (d + 5) 86 [.ref 2] (xh0 g) (some (.int (0))) (xP g) := by
  refine XCp.of (M := xm_X6_image) rfl (Nat.le_of_ble_eq_true rfl) ?_
  refine XGp.go 4 rfl ?_
  refine XGp.callx [.ref 31, .ref 3] _ _ rfl xm_X5_become rfl rfl rfl rfl (fun _ => ⟨31, _, rfl, rfl, Nat.le_of_ble_eq_true rfl, Nat.le_of_ble_eq_true rfl⟩) (Nat.le_of_ble_eq_true rfl) (g_X5_become _ g) ?_
  refine XGp.go 2 rfl ?_
  refine XGp.putf rfl rfl (Nat.le_of_ble_eq_true rfl) (Nat.le_of_ble_eq_true rfl) (Nat.le_of_ble_eq_true rfl) rfl rfl ?_
  refine XGp.go 3 rfl ?_
  exact XGp.iret _ rfl rfl .int rfl rfl (rfl) (by repeat (first | exact xP_0 _ | refine xP_up (Nat.le_of_ble_eq_true rfl) ?_))
