theorem f_m_told (d : Nat) (u g : Nat → XE) (a b : Int32) : XCp (d + 4) 132 [.ref 525, .int a, .int b] (xhm u g) (some (.int (-1))) (fun _ => True) := by
  refine XCp.of (M := xm_X7_told) rfl (Nat.le_of_ble_eq_true rfl) ?_
  refine XGp.go 2 rfl ?_
  refine XGp.callx [.ref 525, .int _] _ _ rfl xm_X7_isGrant rfl rfl rfl rfl (fun _ => ⟨525, _, rfl, rfl, Nat.le_of_ble_eq_true rfl, Nat.le_of_ble_eq_true rfl⟩) (Nat.le_of_ble_eq_true rfl) (f_isGrant _ _ _ _ _ rfl rfl rfl rfl rfl) ?_
  refine XGp.go 1 rfl ?_
  refine XGp.ifp (by decide) ?_
  refine XGp.go 1 rfl ?_
  exact XGp.iret _ rfl rfl .int rfl rfl (by decide) trivial
theorem f_m_has (d : Nat) (u g : Nat → XE) (a b c e : Int32) : XCp (d + 4) 147 [.ref 525, .int a, .int b, .int c, .int e] (xhm u g) (some (.int (-1))) (fun _ => True) := by
  refine XCp.of (M := xm_X7_has) rfl (Nat.le_of_ble_eq_true rfl) ?_
  refine XGp.go 2 rfl ?_
  refine XGp.callx [.ref 525, .int _] _ _ rfl xm_X7_isGrant rfl rfl rfl rfl (fun _ => ⟨525, _, rfl, rfl, Nat.le_of_ble_eq_true rfl, Nat.le_of_ble_eq_true rfl⟩) (Nat.le_of_ble_eq_true rfl) (f_isGrant _ _ _ _ _ rfl rfl rfl rfl rfl) ?_
  refine XGp.go 1 rfl ?_
  refine XGp.ifp (by decide) ?_
  refine XGp.go 1 rfl ?_
  exact XGp.iret _ rfl rfl .int rfl rfl (by decide) trivial
theorem f_m_began (d : Nat) (u g : Nat → XE) (a b c : Int32) : XCp (d + 4) 148 [.ref 525, .int a, .int b, .int c] (xhm u g) (some (.int (-1))) (fun _ => True) := by
  refine XCp.of (M := xm_X7_began) rfl (Nat.le_of_ble_eq_true rfl) ?_
  refine XGp.go 3 rfl ?_
  refine XGp.callx [.ref 525, .int _, .int _] _ _ rfl xm_X7_isClause rfl rfl rfl rfl (fun _ => ⟨525, _, rfl, rfl, Nat.le_of_ble_eq_true rfl, Nat.le_of_ble_eq_true rfl⟩) (Nat.le_of_ble_eq_true rfl) (f_isClause _ _ _ _ _ _ rfl rfl rfl rfl rfl) ?_
  refine XGp.go 1 rfl ?_
  refine XGp.ifp (by decide) ?_
  refine XGp.go 1 rfl ?_
  exact XGp.iret _ rfl rfl .int rfl rfl (by decide) trivial
theorem f_m_sure (d : Nat) (u g : Nat → XE) (a b c : Int32) : XCp (d + 4) 150 [.ref 525, .int a, .int b, .int c] (xhm u g) (some (.int (-1))) (fun _ => True) := by
  refine XCp.of (M := xm_X7_sure) rfl (Nat.le_of_ble_eq_true rfl) ?_
  refine XGp.go 3 rfl ?_
  refine XGp.callx [.ref 525, .int _, .int _] _ _ rfl xm_X7_isClause rfl rfl rfl rfl (fun _ => ⟨525, _, rfl, rfl, Nat.le_of_ble_eq_true rfl, Nat.le_of_ble_eq_true rfl⟩) (Nat.le_of_ble_eq_true rfl) (f_isClause _ _ _ _ _ _ rfl rfl rfl rfl rfl) ?_
  refine XGp.go 1 rfl ?_
  refine XGp.ifp (by decide) ?_
  refine XGp.go 1 rfl ?_
  exact XGp.iret _ rfl rfl .int rfl rfl (by decide) trivial
theorem f_m_holders (d : Nat) (u g : Nat → XE) (a b : Int32) : XCp (d + 4) 151 [.ref 525, .int a, .int b] (xhm u g) (some (.int (-1))) (fun _ => True) := by
  refine XCp.of (M := xm_X7_holders) rfl (Nat.le_of_ble_eq_true rfl) ?_
  refine XGp.go 2 rfl ?_
  refine XGp.callx [.ref 525, .int _] _ _ rfl xm_X7_isGrant rfl rfl rfl rfl (fun _ => ⟨525, _, rfl, rfl, Nat.le_of_ble_eq_true rfl, Nat.le_of_ble_eq_true rfl⟩) (Nat.le_of_ble_eq_true rfl) (f_isGrant _ _ _ _ _ rfl rfl rfl rfl rfl) ?_
  refine XGp.go 1 rfl ?_
  refine XGp.ifp (by decide) ?_
  refine XGp.go 1 rfl ?_
  exact XGp.iret _ rfl rfl .int rfl rfl (by decide) trivial
theorem f_m_share (d : Nat) (u g : Nat → XE) (a b c e : Int32) : XCp (d + 4) 152 [.ref 525, .int a, .int b, .int c, .int e] (xhm u g) (some (.int (-1))) (fun _ => True) := by
  refine XCp.of (M := xm_X7_share) rfl (Nat.le_of_ble_eq_true rfl) ?_
  refine XGp.go 2 rfl ?_
  refine XGp.callx [.ref 525, .int _] _ _ rfl xm_X7_isGrant rfl rfl rfl rfl (fun _ => ⟨525, _, rfl, rfl, Nat.le_of_ble_eq_true rfl, Nat.le_of_ble_eq_true rfl⟩) (Nat.le_of_ble_eq_true rfl) (f_isGrant _ _ _ _ _ rfl rfl rfl rfl rfl) ?_
  refine XGp.go 1 rfl ?_
  refine XGp.ifp (by decide) ?_
  refine XGp.go 1 rfl ?_
  exact XGp.iret _ rfl rfl .int rfl rfl (by decide) trivial
theorem f_m_judged (d : Nat) (u g : Nat → XE) (a b : Int32) : XCp (d + 4) 153 [.ref 525, .int a, .int b] (xhm u g) (some (.int (-1))) (fun _ => True) := by
  refine XCp.of (M := xm_X7_judged) rfl (Nat.le_of_ble_eq_true rfl) ?_
  refine XGp.go 2 rfl ?_
  refine XGp.callx [.ref 525, .int _] _ _ rfl xm_X7_isGrant rfl rfl rfl rfl (fun _ => ⟨525, _, rfl, rfl, Nat.le_of_ble_eq_true rfl, Nat.le_of_ble_eq_true rfl⟩) (Nat.le_of_ble_eq_true rfl) (f_isGrant _ _ _ _ _ rfl rfl rfl rfl rfl) ?_
  refine XGp.go 1 rfl ?_
  refine XGp.ifp (by decide) ?_
  refine XGp.go 1 rfl ?_
  exact XGp.iret _ rfl rfl .int rfl rfl (by decide) trivial
theorem f_m_late (d : Nat) (u g : Nat → XE) (a b c e : Int32) : XCp (d + 4) 158 [.ref 525, .int a, .int b, .int c, .int e] (xhm u g) (some (.int (-1))) (fun _ => True) := by
  refine XCp.of (M := xm_X7_late) rfl (Nat.le_of_ble_eq_true rfl) ?_
  refine XGp.go 3 rfl ?_
  refine XGp.callx [.ref 525, .int _, .int _] _ _ rfl xm_X7_isClause rfl rfl rfl rfl (fun _ => ⟨525, _, rfl, rfl, Nat.le_of_ble_eq_true rfl, Nat.le_of_ble_eq_true rfl⟩) (Nat.le_of_ble_eq_true rfl) (f_isClause _ _ _ _ _ _ rfl rfl rfl rfl rfl) ?_
  refine XGp.go 1 rfl ?_
  refine XGp.ifp (by decide) ?_
  refine XGp.go 1 rfl ?_
  exact XGp.iret _ rfl rfl .int rfl rfl (by decide) trivial
theorem f_m_see (d : Nat) (u g : Nat → XE) (a b c e : Int32) : XCp (d + 4) 160 [.ref 525, .int a, .int b, .int c, .int e] (xhm u g) (some (.int (-1))) (fun _ => True) := by
  refine XCp.of (M := xm_X7_see) rfl (Nat.le_of_ble_eq_true rfl) ?_
  refine XGp.go 3 rfl ?_
  refine XGp.callx [.ref 525, .int _, .int _] _ _ rfl xm_X7_isClause rfl rfl rfl rfl (fun _ => ⟨525, _, rfl, rfl, Nat.le_of_ble_eq_true rfl, Nat.le_of_ble_eq_true rfl⟩) (Nat.le_of_ble_eq_true rfl) (f_isClause _ _ _ _ _ _ rfl rfl rfl rfl rfl) ?_
  refine XGp.go 1 rfl ?_
  refine XGp.ifp (by decide) ?_
  refine XGp.go 1 rfl ?_
  exact XGp.iret _ rfl rfl .int rfl rfl (by decide) trivial
theorem f_m_strike (d : Nat) (u g : Nat → XE) (a b : Int32) : XCp (d + 4) 162 [.ref 525, .int a, .int b] (xhm u g) (some (.int (-1))) (fun _ => True) := by
  refine XCp.of (M := xm_X7_strike) rfl (Nat.le_of_ble_eq_true rfl) ?_
  refine XGp.go 2 rfl ?_
  refine XGp.callx [.ref 525, .int _] _ _ rfl xm_X7_isGrant rfl rfl rfl rfl (fun _ => ⟨525, _, rfl, rfl, Nat.le_of_ble_eq_true rfl, Nat.le_of_ble_eq_true rfl⟩) (Nat.le_of_ble_eq_true rfl) (f_isGrant _ _ _ _ _ rfl rfl rfl rfl rfl) ?_
  refine XGp.go 1 rfl ?_
  refine XGp.ifp (by decide) ?_
  refine XGp.go 1 rfl ?_
  exact XGp.iret _ rfl rfl .int rfl rfl (by decide) trivial
theorem f_m_mend (d : Nat) (u g : Nat → XE) (a b c : Int32) : XCp (d + 4) 163 [.ref 525, .int a, .int b, .int c] (xhm u g) (some (.int (-1))) (fun _ => True) := by
  refine XCp.of (M := xm_X7_mend) rfl (Nat.le_of_ble_eq_true rfl) ?_
  refine XGp.go 2 rfl ?_
  refine XGp.callx [.ref 525, .int _] _ _ rfl xm_X7_isGrant rfl rfl rfl rfl (fun _ => ⟨525, _, rfl, rfl, Nat.le_of_ble_eq_true rfl, Nat.le_of_ble_eq_true rfl⟩) (Nat.le_of_ble_eq_true rfl) (f_isGrant _ _ _ _ _ rfl rfl rfl rfl rfl) ?_
  refine XGp.go 1 rfl ?_
  refine XGp.ifp (by decide) ?_
  refine XGp.go 5 rfl ?_
  refine XGp.ifp (by decide) ?_
  refine XGp.go 1 rfl ?_
  exact XGp.iret _ rfl rfl .int rfl rfl (by decide) trivial
theorem f_m_both (d : Nat) (u g : Nat → XE) (a b c e : Int32) : XCp (d + 4) 165 [.ref 525, .int a, .int b, .int c, .int e] (xhm u g) (some (.int (-1))) (fun _ => True) := by
  refine XCp.of (M := xm_X7_both) rfl (Nat.le_of_ble_eq_true rfl) ?_
  refine XGp.go 2 rfl ?_
  refine XGp.callx [.ref 525, .int _] _ _ rfl xm_X7_isGrant rfl rfl rfl rfl (fun _ => ⟨525, _, rfl, rfl, Nat.le_of_ble_eq_true rfl, Nat.le_of_ble_eq_true rfl⟩) (Nat.le_of_ble_eq_true rfl) (f_isGrant _ _ _ _ _ rfl rfl rfl rfl rfl) ?_
  refine XGp.go 1 rfl ?_
  refine XGp.ifp (by decide) ?_
  refine XGp.go 1 rfl ?_
  exact XGp.iret _ rfl rfl .int rfl rfl (by decide) trivial
theorem f_m_clash (d : Nat) (u g : Nat → XE) (a b c : Int32) : XCp (d + 4) 166 [.ref 525, .int a, .int b, .int c] (xhm u g) (some (.int (-1))) (fun _ => True) := by
  refine XCp.of (M := xm_X7_clash) rfl (Nat.le_of_ble_eq_true rfl) ?_
  refine XGp.go 2 rfl ?_
  refine XGp.callx [.ref 525, .int _] _ _ rfl xm_X7_isGrant rfl rfl rfl rfl (fun _ => ⟨525, _, rfl, rfl, Nat.le_of_ble_eq_true rfl, Nat.le_of_ble_eq_true rfl⟩) (Nat.le_of_ble_eq_true rfl) (f_isGrant _ _ _ _ _ rfl rfl rfl rfl rfl) ?_
  refine XGp.go 1 rfl ?_
  refine XGp.ifp (by decide) ?_
  refine XGp.go 1 rfl ?_
  exact XGp.iret _ rfl rfl .int rfl rfl (by decide) trivial
theorem f_m_same (d : Nat) (u g : Nat → XE) (a b : Int32) : XCp (d + 4) 167 [.ref 525, .int a, .int b] (xhm u g) (some (.int (-1))) (fun _ => True) := by
  refine XCp.of (M := xm_X7_same) rfl (Nat.le_of_ble_eq_true rfl) ?_
  refine XGp.go 2 rfl ?_
  refine XGp.callx [.ref 525, .int _] _ _ rfl xm_X7_isGrant rfl rfl rfl rfl (fun _ => ⟨525, _, rfl, rfl, Nat.le_of_ble_eq_true rfl, Nat.le_of_ble_eq_true rfl⟩) (Nat.le_of_ble_eq_true rfl) (f_isGrant _ _ _ _ _ rfl rfl rfl rfl rfl) ?_
  refine XGp.go 1 rfl ?_
  refine XGp.ifp (by decide) ?_
  refine XGp.go 1 rfl ?_
  exact XGp.iret _ rfl rfl .int rfl rfl (by decide) trivial
theorem f_m_as (d : Nat) (u g : Nat → XE) (a b c : Int32) : XCp (d + 4) 179 [.ref 525, .int a, .int b, .int c] (xhm u g) (some (.int (-1))) (fun _ => True) := by
  refine XCp.of (M := xm_X7_as) rfl (Nat.le_of_ble_eq_true rfl) ?_
  refine XGp.go 3 rfl ?_
  refine XGp.callx [.ref 525, .int _, .int _] _ _ rfl xm_X7_isClause rfl rfl rfl rfl (fun _ => ⟨525, _, rfl, rfl, Nat.le_of_ble_eq_true rfl, Nat.le_of_ble_eq_true rfl⟩) (Nat.le_of_ble_eq_true rfl) (f_isClause _ _ _ _ _ _ rfl rfl rfl rfl rfl) ?_
  refine XGp.go 1 rfl ?_
  refine XGp.ifp (by decide) ?_
  refine XGp.go 1 rfl ?_
  exact XGp.iret _ rfl rfl .int rfl rfl (by decide) trivial
theorem f_m_act (d : Nat) (u g : Nat → XE) (a b c e : Int32) : XCp (d + 4) 177 [.ref 525, .int a, .int b, .int c, .int e] (xhm u g) (some (.int (0))) (fun _ => True) := by
  refine XCp.of (M := xm_X7_act) rfl (Nat.le_of_ble_eq_true rfl) ?_
  refine XGp.go 2 rfl ?_
  refine XGp.putf rfl rfl (Nat.le_of_ble_eq_true rfl) (Nat.le_of_ble_eq_true rfl) (Nat.le_of_ble_eq_true rfl) rfl rfl ?_
  refine XGp.go 3 rfl ?_
  refine XGp.callx [.ref 525, .int _, .int _] _ _ rfl xm_X7_isClause rfl rfl rfl rfl (fun _ => ⟨525, _, rfl, rfl, Nat.le_of_ble_eq_true rfl, Nat.le_of_ble_eq_true rfl⟩) (Nat.le_of_ble_eq_true rfl) (f_isClause _ _ _ _ _ _ rfl rfl rfl rfl rfl) ?_
  refine XGp.go 1 rfl ?_
  refine XGp.ifp (by decide) ?_
  refine XGp.go 1 rfl ?_
  exact XGp.iret _ rfl rfl .int rfl rfl (by decide) trivial
theorem f_m_undo (d : Nat) (u g : Nat → XE) : XCp (d + 4) 181 [.ref 525] (xhm u g) (some (.int (-3))) (fun _ => True) := by
  refine XCp.of (M := xm_X7_undo) rfl (Nat.le_of_ble_eq_true rfl) ?_
  refine XGp.go 3 rfl ?_
  refine XGp.ifp (by decide) ?_
  refine XGp.go 1 rfl ?_
  exact XGp.iret _ rfl rfl .int rfl rfl (by decide) trivial
theorem f_m_trace (d : Nat) (u g : Nat → XE) (a : Int32) : XCp (d + 4) 178 [.ref 525, .int a] (xhm u g) (some (.int (-1))) (fun _ => True) := by
  refine XCp.of (M := xm_X7_trace) rfl (Nat.le_of_ble_eq_true rfl) ?_
  refine XGp.go 6 rfl ?_
  refine XGp.ifn (by decide) ?_
  refine XGp.go 5 rfl ?_
  refine XGp.callx [.int _, .int _, .int _] _ _ rfl xm_X7_in rfl rfl rfl rfl (fun q => absurd rfl q) (Nat.le_of_ble_eq_true rfl) (k_in_none _ _ _ _ _ (by decide)) ?_
  refine XGp.go 1 rfl ?_
  refine XGp.ifp (by decide) ?_
  refine XGp.go 1 rfl ?_
  exact XGp.iret _ rfl rfl .int rfl rfl (by decide) trivial
