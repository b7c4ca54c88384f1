theorem f_c_told (d : Nat) (g : Nat → XE) (a b : Int32) : XCp (d + 2) 67 [.ref 2, .int a, .int b] (xh0 g) (some (.int (-1))) (xP g) := by
  refine XCp.of (M := xm_X6_told) rfl (Nat.le_of_ble_eq_true rfl) ?_
  refine XGp.go 3 rfl ?_
  refine XGp.callx [.ref 3, .int a] _ _ rfl xm_X5_grantAt rfl rfl rfl rfl (fun _ => ⟨3, _, rfl, rfl, Nat.le_of_ble_eq_true rfl, Nat.le_of_ble_eq_true rfl⟩) (Nat.le_of_ble_eq_true rfl) (f_grantAt _ g _ _ rfl rfl (Nat.le_of_ble_eq_true rfl) _) ?_
  refine XGp.go 4 rfl ?_
  exact XGp.iret _ rfl rfl .int rfl rfl (by decide) (by repeat (first | exact xP_0 _ | refine xP_up (Nat.le_of_ble_eq_true rfl) ?_))
theorem f_c_has (d : Nat) (g : Nat → XE) (a b c e : Int32) : XCp (d + 2) 68 [.ref 2, .int a, .int b, .int c, .int e] (xh0 g) (some (.int (-1))) (xP g) := by
  refine XCp.of (M := xm_X6_has) rfl (Nat.le_of_ble_eq_true rfl) ?_
  refine XGp.go 3 rfl ?_
  refine XGp.callx [.ref 3, .int a] _ _ rfl xm_X5_grantAt rfl rfl rfl rfl (fun _ => ⟨3, _, rfl, rfl, Nat.le_of_ble_eq_true rfl, Nat.le_of_ble_eq_true rfl⟩) (Nat.le_of_ble_eq_true rfl) (f_grantAt _ g _ _ rfl rfl (Nat.le_of_ble_eq_true rfl) _) ?_
  refine XGp.go 4 rfl ?_
  exact XGp.iret _ rfl rfl .int rfl rfl (by decide) (by repeat (first | exact xP_0 _ | refine xP_up (Nat.le_of_ble_eq_true rfl) ?_))
theorem f_c_began (d : Nat) (g : Nat → XE) (a b c : Int32) : XCp (d + 2) 69 [.ref 2, .int a, .int b, .int c] (xh0 g) (some (.int (-1))) (xP g) := by
  refine XCp.of (M := xm_X6_began) rfl (Nat.le_of_ble_eq_true rfl) ?_
  refine XGp.go 3 rfl ?_
  refine XGp.callx [.ref 3, .int a] _ _ rfl xm_X5_grantAt rfl rfl rfl rfl (fun _ => ⟨3, _, rfl, rfl, Nat.le_of_ble_eq_true rfl, Nat.le_of_ble_eq_true rfl⟩) (Nat.le_of_ble_eq_true rfl) (f_grantAt _ g _ _ rfl rfl (Nat.le_of_ble_eq_true rfl) _) ?_
  refine XGp.go 4 rfl ?_
  exact XGp.iret _ rfl rfl .int rfl rfl (by decide) (by repeat (first | exact xP_0 _ | refine xP_up (Nat.le_of_ble_eq_true rfl) ?_))
theorem f_c_sure (d : Nat) (g : Nat → XE) (a b c : Int32) : XCp (d + 2) 70 [.ref 2, .int a, .int b, .int c] (xh0 g) (some (.int (-1))) (xP g) := by
  refine XCp.of (M := xm_X6_sure) rfl (Nat.le_of_ble_eq_true rfl) ?_
  refine XGp.go 3 rfl ?_
  refine XGp.callx [.ref 3, .int a] _ _ rfl xm_X5_grantAt rfl rfl rfl rfl (fun _ => ⟨3, _, rfl, rfl, Nat.le_of_ble_eq_true rfl, Nat.le_of_ble_eq_true rfl⟩) (Nat.le_of_ble_eq_true rfl) (f_grantAt _ g _ _ rfl rfl (Nat.le_of_ble_eq_true rfl) _) ?_
  refine XGp.go 4 rfl ?_
  exact XGp.iret _ rfl rfl .int rfl rfl (by decide) (by repeat (first | exact xP_0 _ | refine xP_up (Nat.le_of_ble_eq_true rfl) ?_))
theorem f_c_holders (d : Nat) (g : Nat → XE) (a b : Int32) : XCp (d + 2) 71 [.ref 2, .int a, .int b] (xh0 g) (some (.int (-1))) (xP g) := by
  refine XCp.of (M := xm_X6_holders) rfl (Nat.le_of_ble_eq_true rfl) ?_
  refine XGp.go 3 rfl ?_
  refine XGp.callx [.ref 3, .int a] _ _ rfl xm_X5_grantAt rfl rfl rfl rfl (fun _ => ⟨3, _, rfl, rfl, Nat.le_of_ble_eq_true rfl, Nat.le_of_ble_eq_true rfl⟩) (Nat.le_of_ble_eq_true rfl) (f_grantAt _ g _ _ rfl rfl (Nat.le_of_ble_eq_true rfl) _) ?_
  refine XGp.go 4 rfl ?_
  exact XGp.iret _ rfl rfl .int rfl rfl (by decide) (by repeat (first | exact xP_0 _ | refine xP_up (Nat.le_of_ble_eq_true rfl) ?_))
theorem f_c_share (d : Nat) (g : Nat → XE) (a b c e : Int32) : XCp (d + 2) 72 [.ref 2, .int a, .int b, .int c, .int e] (xh0 g) (some (.int (-1))) (xP g) := by
  refine XCp.of (M := xm_X6_share) rfl (Nat.le_of_ble_eq_true rfl) ?_
  refine XGp.go 3 rfl ?_
  refine XGp.callx [.ref 3, .int a] _ _ rfl xm_X5_grantAt rfl rfl rfl rfl (fun _ => ⟨3, _, rfl, rfl, Nat.le_of_ble_eq_true rfl, Nat.le_of_ble_eq_true rfl⟩) (Nat.le_of_ble_eq_true rfl) (f_grantAt _ g _ _ rfl rfl (Nat.le_of_ble_eq_true rfl) _) ?_
  refine XGp.go 4 rfl ?_
  exact XGp.iret _ rfl rfl .int rfl rfl (by decide) (by repeat (first | exact xP_0 _ | refine xP_up (Nat.le_of_ble_eq_true rfl) ?_))
theorem f_c_judged (d : Nat) (g : Nat → XE) (a b : Int32) : XCp (d + 2) 73 [.ref 2, .int a, .int b] (xh0 g) (some (.int (-1))) (xP g) := by
  refine XCp.of (M := xm_X6_judged) rfl (Nat.le_of_ble_eq_true rfl) ?_
  refine XGp.go 3 rfl ?_
  refine XGp.callx [.ref 3, .int a] _ _ rfl xm_X5_grantAt rfl rfl rfl rfl (fun _ => ⟨3, _, rfl, rfl, Nat.le_of_ble_eq_true rfl, Nat.le_of_ble_eq_true rfl⟩) (Nat.le_of_ble_eq_true rfl) (f_grantAt _ g _ _ rfl rfl (Nat.le_of_ble_eq_true rfl) _) ?_
  refine XGp.go 4 rfl ?_
  exact XGp.iret _ rfl rfl .int rfl rfl (by decide) (by repeat (first | exact xP_0 _ | refine xP_up (Nat.le_of_ble_eq_true rfl) ?_))
theorem f_c_late (d : Nat) (g : Nat → XE) (a b c e : Int32) : XCp (d + 2) 75 [.ref 2, .int a, .int b, .int c, .int e] (xh0 g) (some (.int (-1))) (xP g) := by
  refine XCp.of (M := xm_X6_late) rfl (Nat.le_of_ble_eq_true rfl) ?_
  refine XGp.go 3 rfl ?_
  refine XGp.callx [.ref 3, .int a] _ _ rfl xm_X5_grantAt rfl rfl rfl rfl (fun _ => ⟨3, _, rfl, rfl, Nat.le_of_ble_eq_true rfl, Nat.le_of_ble_eq_true rfl⟩) (Nat.le_of_ble_eq_true rfl) (f_grantAt _ g _ _ rfl rfl (Nat.le_of_ble_eq_true rfl) _) ?_
  refine XGp.go 4 rfl ?_
  exact XGp.iret _ rfl rfl .int rfl rfl (by decide) (by repeat (first | exact xP_0 _ | refine xP_up (Nat.le_of_ble_eq_true rfl) ?_))
theorem f_c_see (d : Nat) (g : Nat → XE) (a b c e : Int32) : XCp (d + 2) 77 [.ref 2, .int a, .int b, .int c, .int e] (xh0 g) (some (.int (-1))) (xP g) := by
  refine XCp.of (M := xm_X6_see) rfl (Nat.le_of_ble_eq_true rfl) ?_
  refine XGp.go 3 rfl ?_
  refine XGp.callx [.ref 3, .int a] _ _ rfl xm_X5_grantAt rfl rfl rfl rfl (fun _ => ⟨3, _, rfl, rfl, Nat.le_of_ble_eq_true rfl, Nat.le_of_ble_eq_true rfl⟩) (Nat.le_of_ble_eq_true rfl) (f_grantAt _ g _ _ rfl rfl (Nat.le_of_ble_eq_true rfl) _) ?_
  refine XGp.go 4 rfl ?_
  exact XGp.iret _ rfl rfl .int rfl rfl (by decide) (by repeat (first | exact xP_0 _ | refine xP_up (Nat.le_of_ble_eq_true rfl) ?_))
theorem f_c_strike (d : Nat) (g : Nat → XE) (a b : Int32) : XCp (d + 2) 78 [.ref 2, .int a, .int b] (xh0 g) (some (.int (-1))) (xP g) := by
  refine XCp.of (M := xm_X6_strike) rfl (Nat.le_of_ble_eq_true rfl) ?_
  refine XGp.go 3 rfl ?_
  refine XGp.callx [.ref 3, .int a] _ _ rfl xm_X5_grantAt rfl rfl rfl rfl (fun _ => ⟨3, _, rfl, rfl, Nat.le_of_ble_eq_true rfl, Nat.le_of_ble_eq_true rfl⟩) (Nat.le_of_ble_eq_true rfl) (f_grantAt _ g _ _ rfl rfl (Nat.le_of_ble_eq_true rfl) _) ?_
  refine XGp.go 4 rfl ?_
  exact XGp.iret _ rfl rfl .int rfl rfl (by decide) (by repeat (first | exact xP_0 _ | refine xP_up (Nat.le_of_ble_eq_true rfl) ?_))
theorem f_c_mend (d : Nat) (g : Nat → XE) (a b c : Int32) : XCp (d + 2) 79 [.ref 2, .int a, .int b, .int c] (xh0 g) (some (.int (-1))) (xP g) := by
  refine XCp.of (M := xm_X6_mend) rfl (Nat.le_of_ble_eq_true rfl) ?_
  refine XGp.go 3 rfl ?_
  refine XGp.callx [.ref 3, .int a] _ _ rfl xm_X5_grantAt rfl rfl rfl rfl (fun _ => ⟨3, _, rfl, rfl, Nat.le_of_ble_eq_true rfl, Nat.le_of_ble_eq_true rfl⟩) (Nat.le_of_ble_eq_true rfl) (f_grantAt _ g _ _ rfl rfl (Nat.le_of_ble_eq_true rfl) _) ?_
  refine XGp.go 9 rfl ?_
  exact XGp.iret _ rfl rfl .int rfl rfl (by decide) (by repeat (first | exact xP_0 _ | refine xP_up (Nat.le_of_ble_eq_true rfl) ?_))
theorem f_c_both (d : Nat) (g : Nat → XE) (a b c e : Int32) : XCp (d + 2) 80 [.ref 2, .int a, .int b, .int c, .int e] (xh0 g) (some (.int (-1))) (xP g) := by
  refine XCp.of (M := xm_X6_both) rfl (Nat.le_of_ble_eq_true rfl) ?_
  refine XGp.go 3 rfl ?_
  refine XGp.callx [.ref 3, .int a] _ _ rfl xm_X5_grantAt rfl rfl rfl rfl (fun _ => ⟨3, _, rfl, rfl, Nat.le_of_ble_eq_true rfl, Nat.le_of_ble_eq_true rfl⟩) (Nat.le_of_ble_eq_true rfl) (f_grantAt _ g _ _ rfl rfl (Nat.le_of_ble_eq_true rfl) _) ?_
  refine XGp.go 2 rfl ?_
  exact XGp.iret _ rfl rfl .int rfl rfl (by decide) (by repeat (first | exact xP_0 _ | refine xP_up (Nat.le_of_ble_eq_true rfl) ?_))
theorem f_c_clash (d : Nat) (g : Nat → XE) (a b c : Int32) : XCp (d + 2) 81 [.ref 2, .int a, .int b, .int c] (xh0 g) (some (.int (-1))) (xP g) := by
  refine XCp.of (M := xm_X6_clash) rfl (Nat.le_of_ble_eq_true rfl) ?_
  refine XGp.go 3 rfl ?_
  refine XGp.callx [.ref 3, .int a] _ _ rfl xm_X5_grantAt rfl rfl rfl rfl (fun _ => ⟨3, _, rfl, rfl, Nat.le_of_ble_eq_true rfl, Nat.le_of_ble_eq_true rfl⟩) (Nat.le_of_ble_eq_true rfl) (f_grantAt _ g _ _ rfl rfl (Nat.le_of_ble_eq_true rfl) _) ?_
  refine XGp.go 2 rfl ?_
  exact XGp.iret _ rfl rfl .int rfl rfl (by decide) (by repeat (first | exact xP_0 _ | refine xP_up (Nat.le_of_ble_eq_true rfl) ?_))
theorem f_c_same (d : Nat) (g : Nat → XE) (a b : Int32) : XCp (d + 2) 82 [.ref 2, .int a, .int b] (xh0 g) (some (.int (-1))) (xP g) := by
  refine XCp.of (M := xm_X6_same) rfl (Nat.le_of_ble_eq_true rfl) ?_
  refine XGp.go 3 rfl ?_
  refine XGp.callx [.ref 3, .int a] _ _ rfl xm_X5_grantAt rfl rfl rfl rfl (fun _ => ⟨3, _, rfl, rfl, Nat.le_of_ble_eq_true rfl, Nat.le_of_ble_eq_true rfl⟩) (Nat.le_of_ble_eq_true rfl) (f_grantAt _ g _ _ rfl rfl (Nat.le_of_ble_eq_true rfl) _) ?_
  refine XGp.go 2 rfl ?_
  exact XGp.iret _ rfl rfl .int rfl rfl (by decide) (by repeat (first | exact xP_0 _ | refine xP_up (Nat.le_of_ble_eq_true rfl) ?_))
theorem f_c_as (d : Nat) (g : Nat → XE) (a b c : Int32) : XCp (d + 2) 85 [.ref 2, .int a, .int b, .int c] (xh0 g) (some (.int (-1))) (xP g) := by
  refine XCp.of (M := xm_X6_as) rfl (Nat.le_of_ble_eq_true rfl) ?_
  refine XGp.go 3 rfl ?_
  refine XGp.callx [.ref 3, .int a] _ _ rfl xm_X5_grantAt rfl rfl rfl rfl (fun _ => ⟨3, _, rfl, rfl, Nat.le_of_ble_eq_true rfl, Nat.le_of_ble_eq_true rfl⟩) (Nat.le_of_ble_eq_true rfl) (f_grantAt _ g _ _ rfl rfl (Nat.le_of_ble_eq_true rfl) _) ?_
  refine XGp.go 4 rfl ?_
  exact XGp.iret _ rfl rfl .int rfl rfl (by decide) (by repeat (first | exact xP_0 _ | refine xP_up (Nat.le_of_ble_eq_true rfl) ?_))
theorem f_c_act (d : Nat) (g : Nat → XE) (a b c e : Int32) : XCp (d + 2) 83 [.ref 2, .int a, .int b, .int c, .int e] (xh0 g) (some (.int (0))) (xP g) := by
  refine XCp.of (M := xm_X6_act) rfl (Nat.le_of_ble_eq_true rfl) ?_
  refine XGp.go 3 rfl ?_
  refine XGp.putf rfl rfl (Nat.le_of_ble_eq_true rfl) (Nat.le_of_ble_eq_true rfl) (Nat.le_of_ble_eq_true rfl) rfl rfl ?_
  refine XGp.go 3 rfl ?_
  refine XGp.callx [.ref 3, .int a] _ _ rfl xm_X5_grantAt rfl rfl rfl rfl (fun _ => ⟨3, _, rfl, rfl, Nat.le_of_ble_eq_true rfl, Nat.le_of_ble_eq_true rfl⟩) (Nat.le_of_ble_eq_true rfl) (f_grantAt _ g _ _ rfl rfl (Nat.le_of_ble_eq_true rfl) _) ?_
  refine XGp.go 4 rfl ?_
  exact XGp.iret _ rfl rfl .int rfl rfl (by decide) (by repeat (first | exact xP_0 _ | refine xP_up (Nat.le_of_ble_eq_true rfl) ?_))
theorem f_c_undo (d : Nat) (g : Nat → XE) : XCp (d + 2) 87 [.ref 2] (xh0 g) (some (.int (-3))) (xP g) := by
  refine XCp.of (M := xm_X6_undo) rfl (Nat.le_of_ble_eq_true rfl) ?_
  refine XGp.go 3 rfl ?_
  refine XGp.ifp (by decide) ?_
  refine XGp.go 1 rfl ?_
  exact XGp.iret _ rfl rfl .int rfl rfl (by decide) (by repeat (first | exact xP_0 _ | refine xP_up (Nat.le_of_ble_eq_true rfl) ?_))
theorem f_c_trace (d : Nat) (g : Nat → XE) (a : Int32) : XCp (d + 2) 84 [.ref 2, .int a] (xh0 g) (some (.int (-1))) (xP g) := by
  refine XCp.of (M := xm_X6_trace) rfl (Nat.le_of_ble_eq_true rfl) ?_
  refine XGp.go 2 rfl ?_
  refine XGp.spl (fun hb0 => ?_) (fun hb0 => ?_)
  · refine XGp.go 2 rfl ?_
    exact XGp.iret _ rfl rfl .int rfl rfl (by decide) (by repeat (first | exact xP_0 _ | refine xP_up (Nat.le_of_ble_eq_true rfl) ?_))
  · refine XGp.go 5 rfl ?_
    refine XGp.spl (fun hb1 => ?_) (fun hb1 => ?_)
    · refine XGp.go 2 rfl ?_
      exact XGp.iret _ rfl rfl .int rfl rfl (by decide) (by repeat (first | exact xP_0 _ | refine xP_up (Nat.le_of_ble_eq_true rfl) ?_))
    · refine XGp.go 3 rfl ?_
      refine XGp.spl (fun hb2 => ?_) (fun hb2 => ?_)
      · refine XGp.go 4 rfl ?_
        exact absurd (Int32.not_lt.mp hb0) hb1
      · refine XGp.go 2 rfl ?_
        exact XGp.iret _ rfl rfl .int rfl rfl (by decide) (by repeat (first | exact xP_0 _ | refine xP_up (Nat.le_of_ble_eq_true rfl) ?_))
