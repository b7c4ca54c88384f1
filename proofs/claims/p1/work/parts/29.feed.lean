theorem f_c_feed1 (d : Nat) (g : Nat → XE) (w : Int64) : XCp (d + 5) 65 [.ref 2, .long w, .int 1] (xh0 g) (some (.int 1)) (xP g) := by
  refine XCp.of (M := xm_X6_feed) rfl (Nat.le_of_ble_eq_true rfl) ?_
  refine XGp.go 3 rfl ?_
  refine XGp.ifn (by decide) ?_
  refine XGp.go 3 rfl ?_
  refine XGp.ifp (by decide) ?_
  refine XGp.go 7 rfl ?_
  refine XGp.ifp (by decide) ?_
  refine XGp.go 6 rfl ?_
  refine XGp.ifn (by decide) ?_
  refine XGp.go 14 rfl ?_
  refine XGp.callx [.ref 10, .int _, .int _] _ _ rfl xm_X6_put rfl rfl rfl rfl (fun q => absurd rfl q) (Nat.le_of_ble_eq_true rfl) (k_put_in _ _ _ _ _ _ _ rfl (Nat.le_of_ble_eq_true rfl) (Nat.le_of_ble_eq_true rfl) (by decide) (by decide)) ?_
  refine XGp.go 6 rfl ?_
  refine XGp.putf rfl rfl (Nat.le_of_ble_eq_true rfl) (Nat.le_of_ble_eq_true rfl) (Nat.le_of_ble_eq_true rfl) rfl rfl ?_
  refine XGp.go 4 rfl ?_
  refine XGp.ifp (by decide) ?_
  refine XGp.go 3 rfl ?_
  exact XGp.iret _ rfl rfl .int rfl rfl (rfl) (by repeat (first | exact xP_0 _ | refine xP_up (Nat.le_of_ble_eq_true rfl) ?_))
theorem f_c_feed2 (d : Nat) (g : Nat → XE) (w : Int64) : XCp (d + 5) 65 [.ref 2, .long w, .int 2] (xh0 g) (some (.int 2)) (xP g) := by
  refine XCp.of (M := xm_X6_feed) rfl (Nat.le_of_ble_eq_true rfl) ?_
  refine XGp.go 3 rfl ?_
  refine XGp.ifn (by decide) ?_
  refine XGp.go 3 rfl ?_
  refine XGp.ifp (by decide) ?_
  refine XGp.go 7 rfl ?_
  refine XGp.ifp (by decide) ?_
  refine XGp.go 6 rfl ?_
  refine XGp.ifn (by decide) ?_
  refine XGp.go 14 rfl ?_
  refine XGp.callx [.ref 10, .int _, .int _] _ _ rfl xm_X6_put rfl rfl rfl rfl (fun q => absurd rfl q) (Nat.le_of_ble_eq_true rfl) (k_put_in _ _ _ _ _ _ _ rfl (Nat.le_of_ble_eq_true rfl) (Nat.le_of_ble_eq_true rfl) (by decide) (by decide)) ?_
  refine XGp.go 6 rfl ?_
  refine XGp.putf rfl rfl (Nat.le_of_ble_eq_true rfl) (Nat.le_of_ble_eq_true rfl) (Nat.le_of_ble_eq_true rfl) rfl rfl ?_
  refine XGp.go 4 rfl ?_
  refine XGp.ifn (by decide) ?_
  refine XGp.go 14 rfl ?_
  refine XGp.callx [.ref 10, .int _, .int _] _ _ rfl xm_X6_put rfl rfl rfl rfl (fun q => absurd rfl q) (Nat.le_of_ble_eq_true rfl) (k_put_in _ _ _ _ _ _ _ rfl (Nat.le_of_ble_eq_true rfl) (Nat.le_of_ble_eq_true rfl) (by decide) (by decide)) ?_
  refine XGp.go 6 rfl ?_
  refine XGp.putf rfl rfl (Nat.le_of_ble_eq_true rfl) (Nat.le_of_ble_eq_true rfl) (Nat.le_of_ble_eq_true rfl) rfl rfl ?_
  refine XGp.go 4 rfl ?_
  refine XGp.ifp (by decide) ?_
  refine XGp.go 3 rfl ?_
  exact XGp.iret _ rfl rfl .int rfl rfl (rfl) (by repeat (first | exact xP_0 _ | refine xP_up (Nat.le_of_ble_eq_true rfl) ?_))
theorem f_c_feed3 (d : Nat) (g : Nat → XE) (w : Int64) : XCp (d + 5) 65 [.ref 2, .long w, .int 3] (xh0 g) (some (.int 3)) (xP g) := by
  refine XCp.of (M := xm_X6_feed) rfl (Nat.le_of_ble_eq_true rfl) ?_
  refine XGp.go 3 rfl ?_
  refine XGp.ifn (by decide) ?_
  refine XGp.go 3 rfl ?_
  refine XGp.ifp (by decide) ?_
  refine XGp.go 7 rfl ?_
  refine XGp.ifp (by decide) ?_
  refine XGp.go 6 rfl ?_
  refine XGp.ifn (by decide) ?_
  refine XGp.go 14 rfl ?_
  refine XGp.callx [.ref 10, .int _, .int _] _ _ rfl xm_X6_put rfl rfl rfl rfl (fun q => absurd rfl q) (Nat.le_of_ble_eq_true rfl) (k_put_in _ _ _ _ _ _ _ rfl (Nat.le_of_ble_eq_true rfl) (Nat.le_of_ble_eq_true rfl) (by decide) (by decide)) ?_
  refine XGp.go 6 rfl ?_
  refine XGp.putf rfl rfl (Nat.le_of_ble_eq_true rfl) (Nat.le_of_ble_eq_true rfl) (Nat.le_of_ble_eq_true rfl) rfl rfl ?_
  refine XGp.go 4 rfl ?_
  refine XGp.ifn (by decide) ?_
  refine XGp.go 14 rfl ?_
  refine XGp.callx [.ref 10, .int _, .int _] _ _ rfl xm_X6_put rfl rfl rfl rfl (fun q => absurd rfl q) (Nat.le_of_ble_eq_true rfl) (k_put_in _ _ _ _ _ _ _ rfl (Nat.le_of_ble_eq_true rfl) (Nat.le_of_ble_eq_true rfl) (by decide) (by decide)) ?_
  refine XGp.go 6 rfl ?_
  refine XGp.putf rfl rfl (Nat.le_of_ble_eq_true rfl) (Nat.le_of_ble_eq_true rfl) (Nat.le_of_ble_eq_true rfl) rfl rfl ?_
  refine XGp.go 4 rfl ?_
  refine XGp.ifn (by decide) ?_
  refine XGp.go 14 rfl ?_
  refine XGp.callx [.ref 10, .int _, .int _] _ _ rfl xm_X6_put rfl rfl rfl rfl (fun q => absurd rfl q) (Nat.le_of_ble_eq_true rfl) (k_put_in _ _ _ _ _ _ _ rfl (Nat.le_of_ble_eq_true rfl) (Nat.le_of_ble_eq_true rfl) (by decide) (by decide)) ?_
  refine XGp.go 6 rfl ?_
  refine XGp.putf rfl rfl (Nat.le_of_ble_eq_true rfl) (Nat.le_of_ble_eq_true rfl) (Nat.le_of_ble_eq_true rfl) rfl rfl ?_
  refine XGp.go 4 rfl ?_
  refine XGp.ifp (by decide) ?_
  refine XGp.go 3 rfl ?_
  exact XGp.iret _ rfl rfl .int rfl rfl (rfl) (by repeat (first | exact xP_0 _ | refine xP_up (Nat.le_of_ble_eq_true rfl) ?_))
theorem f_c_feed4 (d : Nat) (g : Nat → XE) (w : Int64) : XCp (d + 5) 65 [.ref 2, .long w, .int 4] (xh0 g) (some (.int 4)) (xP g) := by
  refine XCp.of (M := xm_X6_feed) rfl (Nat.le_of_ble_eq_true rfl) ?_
  refine XGp.go 3 rfl ?_
  refine XGp.ifn (by decide) ?_
  refine XGp.go 3 rfl ?_
  refine XGp.ifp (by decide) ?_
  refine XGp.go 7 rfl ?_
  refine XGp.ifp (by decide) ?_
  refine XGp.go 6 rfl ?_
  refine XGp.ifn (by decide) ?_
  refine XGp.go 14 rfl ?_
  refine XGp.callx [.ref 10, .int _, .int _] _ _ rfl xm_X6_put rfl rfl rfl rfl (fun q => absurd rfl q) (Nat.le_of_ble_eq_true rfl) (k_put_in _ _ _ _ _ _ _ rfl (Nat.le_of_ble_eq_true rfl) (Nat.le_of_ble_eq_true rfl) (by decide) (by decide)) ?_
  refine XGp.go 6 rfl ?_
  refine XGp.putf rfl rfl (Nat.le_of_ble_eq_true rfl) (Nat.le_of_ble_eq_true rfl) (Nat.le_of_ble_eq_true rfl) rfl rfl ?_
  refine XGp.go 4 rfl ?_
  refine XGp.ifn (by decide) ?_
  refine XGp.go 14 rfl ?_
  refine XGp.callx [.ref 10, .int _, .int _] _ _ rfl xm_X6_put rfl rfl rfl rfl (fun q => absurd rfl q) (Nat.le_of_ble_eq_true rfl) (k_put_in _ _ _ _ _ _ _ rfl (Nat.le_of_ble_eq_true rfl) (Nat.le_of_ble_eq_true rfl) (by decide) (by decide)) ?_
  refine XGp.go 6 rfl ?_
  refine XGp.putf rfl rfl (Nat.le_of_ble_eq_true rfl) (Nat.le_of_ble_eq_true rfl) (Nat.le_of_ble_eq_true rfl) rfl rfl ?_
  refine XGp.go 4 rfl ?_
  refine XGp.ifn (by decide) ?_
  refine XGp.go 14 rfl ?_
  refine XGp.callx [.ref 10, .int _, .int _] _ _ rfl xm_X6_put rfl rfl rfl rfl (fun q => absurd rfl q) (Nat.le_of_ble_eq_true rfl) (k_put_in _ _ _ _ _ _ _ rfl (Nat.le_of_ble_eq_true rfl) (Nat.le_of_ble_eq_true rfl) (by decide) (by decide)) ?_
  refine XGp.go 6 rfl ?_
  refine XGp.putf rfl rfl (Nat.le_of_ble_eq_true rfl) (Nat.le_of_ble_eq_true rfl) (Nat.le_of_ble_eq_true rfl) rfl rfl ?_
  refine XGp.go 4 rfl ?_
  refine XGp.ifn (by decide) ?_
  refine XGp.go 14 rfl ?_
  refine XGp.callx [.ref 10, .int _, .int _] _ _ rfl xm_X6_put rfl rfl rfl rfl (fun q => absurd rfl q) (Nat.le_of_ble_eq_true rfl) (k_put_in _ _ _ _ _ _ _ rfl (Nat.le_of_ble_eq_true rfl) (Nat.le_of_ble_eq_true rfl) (by decide) (by decide)) ?_
  refine XGp.go 6 rfl ?_
  refine XGp.putf rfl rfl (Nat.le_of_ble_eq_true rfl) (Nat.le_of_ble_eq_true rfl) (Nat.le_of_ble_eq_true rfl) rfl rfl ?_
  refine XGp.go 4 rfl ?_
  refine XGp.ifp (by decide) ?_
  refine XGp.go 3 rfl ?_
  exact XGp.iret _ rfl rfl .int rfl rfl (rfl) (by repeat (first | exact xP_0 _ | refine xP_up (Nat.le_of_ble_eq_true rfl) ?_))
theorem f_c_feed5 (d : Nat) (g : Nat → XE) (w : Int64) : XCp (d + 5) 65 [.ref 2, .long w, .int 5] (xh0 g) (some (.int 5)) (xP g) := by
  refine XCp.of (M := xm_X6_feed) rfl (Nat.le_of_ble_eq_true rfl) ?_
  refine XGp.go 3 rfl ?_
  refine XGp.ifn (by decide) ?_
  refine XGp.go 3 rfl ?_
  refine XGp.ifp (by decide) ?_
  refine XGp.go 7 rfl ?_
  refine XGp.ifp (by decide) ?_
  refine XGp.go 6 rfl ?_
  refine XGp.ifn (by decide) ?_
  refine XGp.go 14 rfl ?_
  refine XGp.callx [.ref 10, .int _, .int _] _ _ rfl xm_X6_put rfl rfl rfl rfl (fun q => absurd rfl q) (Nat.le_of_ble_eq_true rfl) (k_put_in _ _ _ _ _ _ _ rfl (Nat.le_of_ble_eq_true rfl) (Nat.le_of_ble_eq_true rfl) (by decide) (by decide)) ?_
  refine XGp.go 6 rfl ?_
  refine XGp.putf rfl rfl (Nat.le_of_ble_eq_true rfl) (Nat.le_of_ble_eq_true rfl) (Nat.le_of_ble_eq_true rfl) rfl rfl ?_
  refine XGp.go 4 rfl ?_
  refine XGp.ifn (by decide) ?_
  refine XGp.go 14 rfl ?_
  refine XGp.callx [.ref 10, .int _, .int _] _ _ rfl xm_X6_put rfl rfl rfl rfl (fun q => absurd rfl q) (Nat.le_of_ble_eq_true rfl) (k_put_in _ _ _ _ _ _ _ rfl (Nat.le_of_ble_eq_true rfl) (Nat.le_of_ble_eq_true rfl) (by decide) (by decide)) ?_
  refine XGp.go 6 rfl ?_
  refine XGp.putf rfl rfl (Nat.le_of_ble_eq_true rfl) (Nat.le_of_ble_eq_true rfl) (Nat.le_of_ble_eq_true rfl) rfl rfl ?_
  refine XGp.go 4 rfl ?_
  refine XGp.ifn (by decide) ?_
  refine XGp.go 14 rfl ?_
  refine XGp.callx [.ref 10, .int _, .int _] _ _ rfl xm_X6_put rfl rfl rfl rfl (fun q => absurd rfl q) (Nat.le_of_ble_eq_true rfl) (k_put_in _ _ _ _ _ _ _ rfl (Nat.le_of_ble_eq_true rfl) (Nat.le_of_ble_eq_true rfl) (by decide) (by decide)) ?_
  refine XGp.go 6 rfl ?_
  refine XGp.putf rfl rfl (Nat.le_of_ble_eq_true rfl) (Nat.le_of_ble_eq_true rfl) (Nat.le_of_ble_eq_true rfl) rfl rfl ?_
  refine XGp.go 4 rfl ?_
  refine XGp.ifn (by decide) ?_
  refine XGp.go 14 rfl ?_
  refine XGp.callx [.ref 10, .int _, .int _] _ _ rfl xm_X6_put rfl rfl rfl rfl (fun q => absurd rfl q) (Nat.le_of_ble_eq_true rfl) (k_put_in _ _ _ _ _ _ _ rfl (Nat.le_of_ble_eq_true rfl) (Nat.le_of_ble_eq_true rfl) (by decide) (by decide)) ?_
  refine XGp.go 6 rfl ?_
  refine XGp.putf rfl rfl (Nat.le_of_ble_eq_true rfl) (Nat.le_of_ble_eq_true rfl) (Nat.le_of_ble_eq_true rfl) rfl rfl ?_
  refine XGp.go 4 rfl ?_
  refine XGp.ifn (by decide) ?_
  refine XGp.go 14 rfl ?_
  refine XGp.callx [.ref 10, .int _, .int _] _ _ rfl xm_X6_put rfl rfl rfl rfl (fun q => absurd rfl q) (Nat.le_of_ble_eq_true rfl) (k_put_in _ _ _ _ _ _ _ rfl (Nat.le_of_ble_eq_true rfl) (Nat.le_of_ble_eq_true rfl) (by decide) (by decide)) ?_
  refine XGp.go 6 rfl ?_
  refine XGp.putf rfl rfl (Nat.le_of_ble_eq_true rfl) (Nat.le_of_ble_eq_true rfl) (Nat.le_of_ble_eq_true rfl) rfl rfl ?_
  refine XGp.go 4 rfl ?_
  refine XGp.ifp (by decide) ?_
  refine XGp.go 3 rfl ?_
  exact XGp.iret _ rfl rfl .int rfl rfl (rfl) (by repeat (first | exact xP_0 _ | refine xP_up (Nat.le_of_ble_eq_true rfl) ?_))
theorem f_c_feed6 (d : Nat) (g : Nat → XE) (w : Int64) : XCp (d + 5) 65 [.ref 2, .long w, .int 6] (xh0 g) (some (.int 6)) (xP g) := by
  refine XCp.of (M := xm_X6_feed) rfl (Nat.le_of_ble_eq_true rfl) ?_
  refine XGp.go 3 rfl ?_
  refine XGp.ifn (by decide) ?_
  refine XGp.go 3 rfl ?_
  refine XGp.ifp (by decide) ?_
  refine XGp.go 7 rfl ?_
  refine XGp.ifp (by decide) ?_
  refine XGp.go 6 rfl ?_
  refine XGp.ifn (by decide) ?_
  refine XGp.go 14 rfl ?_
  refine XGp.callx [.ref 10, .int _, .int _] _ _ rfl xm_X6_put rfl rfl rfl rfl (fun q => absurd rfl q) (Nat.le_of_ble_eq_true rfl) (k_put_in _ _ _ _ _ _ _ rfl (Nat.le_of_ble_eq_true rfl) (Nat.le_of_ble_eq_true rfl) (by decide) (by decide)) ?_
  refine XGp.go 6 rfl ?_
  refine XGp.putf rfl rfl (Nat.le_of_ble_eq_true rfl) (Nat.le_of_ble_eq_true rfl) (Nat.le_of_ble_eq_true rfl) rfl rfl ?_
  refine XGp.go 4 rfl ?_
  refine XGp.ifn (by decide) ?_
  refine XGp.go 14 rfl ?_
  refine XGp.callx [.ref 10, .int _, .int _] _ _ rfl xm_X6_put rfl rfl rfl rfl (fun q => absurd rfl q) (Nat.le_of_ble_eq_true rfl) (k_put_in _ _ _ _ _ _ _ rfl (Nat.le_of_ble_eq_true rfl) (Nat.le_of_ble_eq_true rfl) (by decide) (by decide)) ?_
  refine XGp.go 6 rfl ?_
  refine XGp.putf rfl rfl (Nat.le_of_ble_eq_true rfl) (Nat.le_of_ble_eq_true rfl) (Nat.le_of_ble_eq_true rfl) rfl rfl ?_
  refine XGp.go 4 rfl ?_
  refine XGp.ifn (by decide) ?_
  refine XGp.go 14 rfl ?_
  refine XGp.callx [.ref 10, .int _, .int _] _ _ rfl xm_X6_put rfl rfl rfl rfl (fun q => absurd rfl q) (Nat.le_of_ble_eq_true rfl) (k_put_in _ _ _ _ _ _ _ rfl (Nat.le_of_ble_eq_true rfl) (Nat.le_of_ble_eq_true rfl) (by decide) (by decide)) ?_
  refine XGp.go 6 rfl ?_
  refine XGp.putf rfl rfl (Nat.le_of_ble_eq_true rfl) (Nat.le_of_ble_eq_true rfl) (Nat.le_of_ble_eq_true rfl) rfl rfl ?_
  refine XGp.go 4 rfl ?_
  refine XGp.ifn (by decide) ?_
  refine XGp.go 14 rfl ?_
  refine XGp.callx [.ref 10, .int _, .int _] _ _ rfl xm_X6_put rfl rfl rfl rfl (fun q => absurd rfl q) (Nat.le_of_ble_eq_true rfl) (k_put_in _ _ _ _ _ _ _ rfl (Nat.le_of_ble_eq_true rfl) (Nat.le_of_ble_eq_true rfl) (by decide) (by decide)) ?_
  refine XGp.go 6 rfl ?_
  refine XGp.putf rfl rfl (Nat.le_of_ble_eq_true rfl) (Nat.le_of_ble_eq_true rfl) (Nat.le_of_ble_eq_true rfl) rfl rfl ?_
  refine XGp.go 4 rfl ?_
  refine XGp.ifn (by decide) ?_
  refine XGp.go 14 rfl ?_
  refine XGp.callx [.ref 10, .int _, .int _] _ _ rfl xm_X6_put rfl rfl rfl rfl (fun q => absurd rfl q) (Nat.le_of_ble_eq_true rfl) (k_put_in _ _ _ _ _ _ _ rfl (Nat.le_of_ble_eq_true rfl) (Nat.le_of_ble_eq_true rfl) (by decide) (by decide)) ?_
  refine XGp.go 6 rfl ?_
  refine XGp.putf rfl rfl (Nat.le_of_ble_eq_true rfl) (Nat.le_of_ble_eq_true rfl) (Nat.le_of_ble_eq_true rfl) rfl rfl ?_
  refine XGp.go 4 rfl ?_
  refine XGp.ifn (by decide) ?_
  refine XGp.go 14 rfl ?_
  refine XGp.callx [.ref 10, .int _, .int _] _ _ rfl xm_X6_put rfl rfl rfl rfl (fun q => absurd rfl q) (Nat.le_of_ble_eq_true rfl) (k_put_in _ _ _ _ _ _ _ rfl (Nat.le_of_ble_eq_true rfl) (Nat.le_of_ble_eq_true rfl) (by decide) (by decide)) ?_
  refine XGp.go 6 rfl ?_
  refine XGp.putf rfl rfl (Nat.le_of_ble_eq_true rfl) (Nat.le_of_ble_eq_true rfl) (Nat.le_of_ble_eq_true rfl) rfl rfl ?_
  refine XGp.go 4 rfl ?_
  refine XGp.ifp (by decide) ?_
  refine XGp.go 3 rfl ?_
  exact XGp.iret _ rfl rfl .int rfl rfl (rfl) (by repeat (first | exact xP_0 _ | refine xP_up (Nat.le_of_ble_eq_true rfl) ?_))
theorem f_c_feed7 (d : Nat) (g : Nat → XE) (w : Int64) : XCp (d + 5) 65 [.ref 2, .long w, .int 7] (xh0 g) (some (.int 7)) (xP g) := by
  refine XCp.of (M := xm_X6_feed) rfl (Nat.le_of_ble_eq_true rfl) ?_
  refine XGp.go 3 rfl ?_
  refine XGp.ifn (by decide) ?_
  refine XGp.go 3 rfl ?_
  refine XGp.ifp (by decide) ?_
  refine XGp.go 7 rfl ?_
  refine XGp.ifp (by decide) ?_
  refine XGp.go 6 rfl ?_
  refine XGp.ifn (by decide) ?_
  refine XGp.go 14 rfl ?_
  refine XGp.callx [.ref 10, .int _, .int _] _ _ rfl xm_X6_put rfl rfl rfl rfl (fun q => absurd rfl q) (Nat.le_of_ble_eq_true rfl) (k_put_in _ _ _ _ _ _ _ rfl (Nat.le_of_ble_eq_true rfl) (Nat.le_of_ble_eq_true rfl) (by decide) (by decide)) ?_
  refine XGp.go 6 rfl ?_
  refine XGp.putf rfl rfl (Nat.le_of_ble_eq_true rfl) (Nat.le_of_ble_eq_true rfl) (Nat.le_of_ble_eq_true rfl) rfl rfl ?_
  refine XGp.go 4 rfl ?_
  refine XGp.ifn (by decide) ?_
  refine XGp.go 14 rfl ?_
  refine XGp.callx [.ref 10, .int _, .int _] _ _ rfl xm_X6_put rfl rfl rfl rfl (fun q => absurd rfl q) (Nat.le_of_ble_eq_true rfl) (k_put_in _ _ _ _ _ _ _ rfl (Nat.le_of_ble_eq_true rfl) (Nat.le_of_ble_eq_true rfl) (by decide) (by decide)) ?_
  refine XGp.go 6 rfl ?_
  refine XGp.putf rfl rfl (Nat.le_of_ble_eq_true rfl) (Nat.le_of_ble_eq_true rfl) (Nat.le_of_ble_eq_true rfl) rfl rfl ?_
  refine XGp.go 4 rfl ?_
  refine XGp.ifn (by decide) ?_
  refine XGp.go 14 rfl ?_
  refine XGp.callx [.ref 10, .int _, .int _] _ _ rfl xm_X6_put rfl rfl rfl rfl (fun q => absurd rfl q) (Nat.le_of_ble_eq_true rfl) (k_put_in _ _ _ _ _ _ _ rfl (Nat.le_of_ble_eq_true rfl) (Nat.le_of_ble_eq_true rfl) (by decide) (by decide)) ?_
  refine XGp.go 6 rfl ?_
  refine XGp.putf rfl rfl (Nat.le_of_ble_eq_true rfl) (Nat.le_of_ble_eq_true rfl) (Nat.le_of_ble_eq_true rfl) rfl rfl ?_
  refine XGp.go 4 rfl ?_
  refine XGp.ifn (by decide) ?_
  refine XGp.go 14 rfl ?_
  refine XGp.callx [.ref 10, .int _, .int _] _ _ rfl xm_X6_put rfl rfl rfl rfl (fun q => absurd rfl q) (Nat.le_of_ble_eq_true rfl) (k_put_in _ _ _ _ _ _ _ rfl (Nat.le_of_ble_eq_true rfl) (Nat.le_of_ble_eq_true rfl) (by decide) (by decide)) ?_
  refine XGp.go 6 rfl ?_
  refine XGp.putf rfl rfl (Nat.le_of_ble_eq_true rfl) (Nat.le_of_ble_eq_true rfl) (Nat.le_of_ble_eq_true rfl) rfl rfl ?_
  refine XGp.go 4 rfl ?_
  refine XGp.ifn (by decide) ?_
  refine XGp.go 14 rfl ?_
  refine XGp.callx [.ref 10, .int _, .int _] _ _ rfl xm_X6_put rfl rfl rfl rfl (fun q => absurd rfl q) (Nat.le_of_ble_eq_true rfl) (k_put_in _ _ _ _ _ _ _ rfl (Nat.le_of_ble_eq_true rfl) (Nat.le_of_ble_eq_true rfl) (by decide) (by decide)) ?_
  refine XGp.go 6 rfl ?_
  refine XGp.putf rfl rfl (Nat.le_of_ble_eq_true rfl) (Nat.le_of_ble_eq_true rfl) (Nat.le_of_ble_eq_true rfl) rfl rfl ?_
  refine XGp.go 4 rfl ?_
  refine XGp.ifn (by decide) ?_
  refine XGp.go 14 rfl ?_
  refine XGp.callx [.ref 10, .int _, .int _] _ _ rfl xm_X6_put rfl rfl rfl rfl (fun q => absurd rfl q) (Nat.le_of_ble_eq_true rfl) (k_put_in _ _ _ _ _ _ _ rfl (Nat.le_of_ble_eq_true rfl) (Nat.le_of_ble_eq_true rfl) (by decide) (by decide)) ?_
  refine XGp.go 6 rfl ?_
  refine XGp.putf rfl rfl (Nat.le_of_ble_eq_true rfl) (Nat.le_of_ble_eq_true rfl) (Nat.le_of_ble_eq_true rfl) rfl rfl ?_
  refine XGp.go 4 rfl ?_
  refine XGp.ifn (by decide) ?_
  refine XGp.go 14 rfl ?_
  refine XGp.callx [.ref 10, .int _, .int _] _ _ rfl xm_X6_put rfl rfl rfl rfl (fun q => absurd rfl q) (Nat.le_of_ble_eq_true rfl) (k_put_in _ _ _ _ _ _ _ rfl (Nat.le_of_ble_eq_true rfl) (Nat.le_of_ble_eq_true rfl) (by decide) (by decide)) ?_
  refine XGp.go 6 rfl ?_
  refine XGp.putf rfl rfl (Nat.le_of_ble_eq_true rfl) (Nat.le_of_ble_eq_true rfl) (Nat.le_of_ble_eq_true rfl) rfl rfl ?_
  refine XGp.go 4 rfl ?_
  refine XGp.ifp (by decide) ?_
  refine XGp.go 3 rfl ?_
  exact XGp.iret _ rfl rfl .int rfl rfl (rfl) (by repeat (first | exact xP_0 _ | refine xP_up (Nat.le_of_ble_eq_true rfl) ?_))
theorem f_c_feed8 (d : Nat) (g : Nat → XE) (w : Int64) : XCp (d + 5) 65 [.ref 2, .long w, .int 8] (xh0 g) (some (.int 8)) (xP g) := by
  refine XCp.of (M := xm_X6_feed) rfl (Nat.le_of_ble_eq_true rfl) ?_
  refine XGp.go 3 rfl ?_
  refine XGp.ifn (by decide) ?_
  refine XGp.go 3 rfl ?_
  refine XGp.ifp (by decide) ?_
  refine XGp.go 7 rfl ?_
  refine XGp.ifp (by decide) ?_
  refine XGp.go 6 rfl ?_
  refine XGp.ifn (by decide) ?_
  refine XGp.go 14 rfl ?_
  refine XGp.callx [.ref 10, .int _, .int _] _ _ rfl xm_X6_put rfl rfl rfl rfl (fun q => absurd rfl q) (Nat.le_of_ble_eq_true rfl) (k_put_in _ _ _ _ _ _ _ rfl (Nat.le_of_ble_eq_true rfl) (Nat.le_of_ble_eq_true rfl) (by decide) (by decide)) ?_
  refine XGp.go 6 rfl ?_
  refine XGp.putf rfl rfl (Nat.le_of_ble_eq_true rfl) (Nat.le_of_ble_eq_true rfl) (Nat.le_of_ble_eq_true rfl) rfl rfl ?_
  refine XGp.go 4 rfl ?_
  refine XGp.ifn (by decide) ?_
  refine XGp.go 14 rfl ?_
  refine XGp.callx [.ref 10, .int _, .int _] _ _ rfl xm_X6_put rfl rfl rfl rfl (fun q => absurd rfl q) (Nat.le_of_ble_eq_true rfl) (k_put_in _ _ _ _ _ _ _ rfl (Nat.le_of_ble_eq_true rfl) (Nat.le_of_ble_eq_true rfl) (by decide) (by decide)) ?_
  refine XGp.go 6 rfl ?_
  refine XGp.putf rfl rfl (Nat.le_of_ble_eq_true rfl) (Nat.le_of_ble_eq_true rfl) (Nat.le_of_ble_eq_true rfl) rfl rfl ?_
  refine XGp.go 4 rfl ?_
  refine XGp.ifn (by decide) ?_
  refine XGp.go 14 rfl ?_
  refine XGp.callx [.ref 10, .int _, .int _] _ _ rfl xm_X6_put rfl rfl rfl rfl (fun q => absurd rfl q) (Nat.le_of_ble_eq_true rfl) (k_put_in _ _ _ _ _ _ _ rfl (Nat.le_of_ble_eq_true rfl) (Nat.le_of_ble_eq_true rfl) (by decide) (by decide)) ?_
  refine XGp.go 6 rfl ?_
  refine XGp.putf rfl rfl (Nat.le_of_ble_eq_true rfl) (Nat.le_of_ble_eq_true rfl) (Nat.le_of_ble_eq_true rfl) rfl rfl ?_
  refine XGp.go 4 rfl ?_
  refine XGp.ifn (by decide) ?_
  refine XGp.go 14 rfl ?_
  refine XGp.callx [.ref 10, .int _, .int _] _ _ rfl xm_X6_put rfl rfl rfl rfl (fun q => absurd rfl q) (Nat.le_of_ble_eq_true rfl) (k_put_in _ _ _ _ _ _ _ rfl (Nat.le_of_ble_eq_true rfl) (Nat.le_of_ble_eq_true rfl) (by decide) (by decide)) ?_
  refine XGp.go 6 rfl ?_
  refine XGp.putf rfl rfl (Nat.le_of_ble_eq_true rfl) (Nat.le_of_ble_eq_true rfl) (Nat.le_of_ble_eq_true rfl) rfl rfl ?_
  refine XGp.go 4 rfl ?_
  refine XGp.ifn (by decide) ?_
  refine XGp.go 14 rfl ?_
  refine XGp.callx [.ref 10, .int _, .int _] _ _ rfl xm_X6_put rfl rfl rfl rfl (fun q => absurd rfl q) (Nat.le_of_ble_eq_true rfl) (k_put_in _ _ _ _ _ _ _ rfl (Nat.le_of_ble_eq_true rfl) (Nat.le_of_ble_eq_true rfl) (by decide) (by decide)) ?_
  refine XGp.go 6 rfl ?_
  refine XGp.putf rfl rfl (Nat.le_of_ble_eq_true rfl) (Nat.le_of_ble_eq_true rfl) (Nat.le_of_ble_eq_true rfl) rfl rfl ?_
  refine XGp.go 4 rfl ?_
  refine XGp.ifn (by decide) ?_
  refine XGp.go 14 rfl ?_
  refine XGp.callx [.ref 10, .int _, .int _] _ _ rfl xm_X6_put rfl rfl rfl rfl (fun q => absurd rfl q) (Nat.le_of_ble_eq_true rfl) (k_put_in _ _ _ _ _ _ _ rfl (Nat.le_of_ble_eq_true rfl) (Nat.le_of_ble_eq_true rfl) (by decide) (by decide)) ?_
  refine XGp.go 6 rfl ?_
  refine XGp.putf rfl rfl (Nat.le_of_ble_eq_true rfl) (Nat.le_of_ble_eq_true rfl) (Nat.le_of_ble_eq_true rfl) rfl rfl ?_
  refine XGp.go 4 rfl ?_
  refine XGp.ifn (by decide) ?_
  refine XGp.go 14 rfl ?_
  refine XGp.callx [.ref 10, .int _, .int _] _ _ rfl xm_X6_put rfl rfl rfl rfl (fun q => absurd rfl q) (Nat.le_of_ble_eq_true rfl) (k_put_in _ _ _ _ _ _ _ rfl (Nat.le_of_ble_eq_true rfl) (Nat.le_of_ble_eq_true rfl) (by decide) (by decide)) ?_
  refine XGp.go 6 rfl ?_
  refine XGp.putf rfl rfl (Nat.le_of_ble_eq_true rfl) (Nat.le_of_ble_eq_true rfl) (Nat.le_of_ble_eq_true rfl) rfl rfl ?_
  refine XGp.go 4 rfl ?_
  refine XGp.ifn (by decide) ?_
  refine XGp.go 14 rfl ?_
  refine XGp.callx [.ref 10, .int _, .int _] _ _ rfl xm_X6_put rfl rfl rfl rfl (fun q => absurd rfl q) (Nat.le_of_ble_eq_true rfl) (k_put_in _ _ _ _ _ _ _ rfl (Nat.le_of_ble_eq_true rfl) (Nat.le_of_ble_eq_true rfl) (by decide) (by decide)) ?_
  refine XGp.go 6 rfl ?_
  refine XGp.putf rfl rfl (Nat.le_of_ble_eq_true rfl) (Nat.le_of_ble_eq_true rfl) (Nat.le_of_ble_eq_true rfl) rfl rfl ?_
  refine XGp.go 4 rfl ?_
  refine XGp.ifp (by decide) ?_
  refine XGp.go 3 rfl ?_
  exact XGp.iret _ rfl rfl .int rfl rfl (rfl) (by repeat (first | exact xP_0 _ | refine xP_up (Nat.le_of_ble_eq_true rfl) ?_))
theorem f_m_feed1 (d : Nat) (u g : Nat → XE) (w : Int64) : XCp (d + 5) 120 [.ref 525, .long w, .int 1] (xhm u g) (some (.int 1)) (fun _ => True) := by
  refine XCp.of (M := xm_X7_feed) rfl (Nat.le_of_ble_eq_true rfl) ?_
  refine XGp.go 3 rfl ?_
  refine XGp.callx [.int _, .int _, .int _] _ _ rfl xm_X7_in rfl rfl rfl rfl (fun q => absurd rfl q) (Nat.le_of_ble_eq_true rfl) (k_in _ _ _ _ _) ?_
  rw [show xin _ _ _ = 1 from by decide]
  refine XGp.go 1 rfl ?_
  refine XGp.ifn (by decide) ?_
  refine XGp.go 4 rfl ?_
  refine XGp.top 0 (by simp [upd]) ?_
  refine XGp.go 4 rfl ?_
  refine XGp.ifp (by decide) ?_
  refine XGp.go 6 rfl ?_
  refine XGp.ifn (by decide) ?_
  refine XGp.go 7 rfl ?_
  refine XGp.top 0 (by simp [upd]) ?_
  refine XGp.go 9 rfl ?_
  refine XGp.iast rfl rfl (Nat.le_of_ble_eq_true rfl) (Nat.le_of_ble_eq_true rfl) (by decide) ?_
  refine XGp.go 5 rfl ?_
  refine XGp.top 0 (by simp [upd]) ?_
  refine XGp.go 2 rfl ?_
  refine XGp.iast rfl rfl (Nat.le_of_ble_eq_true rfl) (Nat.le_of_ble_eq_true rfl) (by decide) ?_
  refine XGp.go 4 rfl ?_
  refine XGp.ifp (by decide) ?_
  refine XGp.go 4 rfl ?_
  refine XGp.top 1 (by simp [upd]) ?_
  exact XGp.iret _ rfl rfl .int rfl rfl (rfl) trivial
theorem f_m_feed2 (d : Nat) (u g : Nat → XE) (w : Int64) : XCp (d + 5) 120 [.ref 525, .long w, .int 2] (xhm u g) (some (.int 2)) (fun _ => True) := by
  refine XCp.of (M := xm_X7_feed) rfl (Nat.le_of_ble_eq_true rfl) ?_
  refine XGp.go 3 rfl ?_
  refine XGp.callx [.int _, .int _, .int _] _ _ rfl xm_X7_in rfl rfl rfl rfl (fun q => absurd rfl q) (Nat.le_of_ble_eq_true rfl) (k_in _ _ _ _ _) ?_
  rw [show xin _ _ _ = 1 from by decide]
  refine XGp.go 1 rfl ?_
  refine XGp.ifn (by decide) ?_
  refine XGp.go 4 rfl ?_
  refine XGp.top 0 (by simp [upd]) ?_
  refine XGp.go 4 rfl ?_
  refine XGp.ifp (by decide) ?_
  refine XGp.go 6 rfl ?_
  refine XGp.ifn (by decide) ?_
  refine XGp.go 7 rfl ?_
  refine XGp.top 0 (by simp [upd]) ?_
  refine XGp.go 9 rfl ?_
  refine XGp.iast rfl rfl (Nat.le_of_ble_eq_true rfl) (Nat.le_of_ble_eq_true rfl) (by decide) ?_
  refine XGp.go 5 rfl ?_
  refine XGp.top 0 (by simp [upd]) ?_
  refine XGp.go 2 rfl ?_
  refine XGp.iast rfl rfl (Nat.le_of_ble_eq_true rfl) (Nat.le_of_ble_eq_true rfl) (by decide) ?_
  refine XGp.go 4 rfl ?_
  refine XGp.ifn (by decide) ?_
  refine XGp.go 7 rfl ?_
  refine XGp.top 1 (by simp [upd]) ?_
  refine XGp.go 9 rfl ?_
  refine XGp.iast rfl rfl (Nat.le_of_ble_eq_true rfl) (Nat.le_of_ble_eq_true rfl) (by decide) ?_
  refine XGp.go 5 rfl ?_
  refine XGp.top 1 (by simp [upd]) ?_
  refine XGp.go 2 rfl ?_
  refine XGp.iast rfl rfl (Nat.le_of_ble_eq_true rfl) (Nat.le_of_ble_eq_true rfl) (by decide) ?_
  refine XGp.go 4 rfl ?_
  refine XGp.ifp (by decide) ?_
  refine XGp.go 4 rfl ?_
  refine XGp.top 2 (by simp [upd]) ?_
  exact XGp.iret _ rfl rfl .int rfl rfl (rfl) trivial
theorem f_m_feed3 (d : Nat) (u g : Nat → XE) (w : Int64) : XCp (d + 5) 120 [.ref 525, .long w, .int 3] (xhm u g) (some (.int 3)) (fun _ => True) := by
  refine XCp.of (M := xm_X7_feed) rfl (Nat.le_of_ble_eq_true rfl) ?_
  refine XGp.go 3 rfl ?_
  refine XGp.callx [.int _, .int _, .int _] _ _ rfl xm_X7_in rfl rfl rfl rfl (fun q => absurd rfl q) (Nat.le_of_ble_eq_true rfl) (k_in _ _ _ _ _) ?_
  rw [show xin _ _ _ = 1 from by decide]
  refine XGp.go 1 rfl ?_
  refine XGp.ifn (by decide) ?_
  refine XGp.go 4 rfl ?_
  refine XGp.top 0 (by simp [upd]) ?_
  refine XGp.go 4 rfl ?_
  refine XGp.ifp (by decide) ?_
  refine XGp.go 6 rfl ?_
  refine XGp.ifn (by decide) ?_
  refine XGp.go 7 rfl ?_
  refine XGp.top 0 (by simp [upd]) ?_
  refine XGp.go 9 rfl ?_
  refine XGp.iast rfl rfl (Nat.le_of_ble_eq_true rfl) (Nat.le_of_ble_eq_true rfl) (by decide) ?_
  refine XGp.go 5 rfl ?_
  refine XGp.top 0 (by simp [upd]) ?_
  refine XGp.go 2 rfl ?_
  refine XGp.iast rfl rfl (Nat.le_of_ble_eq_true rfl) (Nat.le_of_ble_eq_true rfl) (by decide) ?_
  refine XGp.go 4 rfl ?_
  refine XGp.ifn (by decide) ?_
  refine XGp.go 7 rfl ?_
  refine XGp.top 1 (by simp [upd]) ?_
  refine XGp.go 9 rfl ?_
  refine XGp.iast rfl rfl (Nat.le_of_ble_eq_true rfl) (Nat.le_of_ble_eq_true rfl) (by decide) ?_
  refine XGp.go 5 rfl ?_
  refine XGp.top 1 (by simp [upd]) ?_
  refine XGp.go 2 rfl ?_
  refine XGp.iast rfl rfl (Nat.le_of_ble_eq_true rfl) (Nat.le_of_ble_eq_true rfl) (by decide) ?_
  refine XGp.go 4 rfl ?_
  refine XGp.ifn (by decide) ?_
  refine XGp.go 7 rfl ?_
  refine XGp.top 2 (by simp [upd]) ?_
  refine XGp.go 9 rfl ?_
  refine XGp.iast rfl rfl (Nat.le_of_ble_eq_true rfl) (Nat.le_of_ble_eq_true rfl) (by decide) ?_
  refine XGp.go 5 rfl ?_
  refine XGp.top 2 (by simp [upd]) ?_
  refine XGp.go 2 rfl ?_
  refine XGp.iast rfl rfl (Nat.le_of_ble_eq_true rfl) (Nat.le_of_ble_eq_true rfl) (by decide) ?_
  refine XGp.go 4 rfl ?_
  refine XGp.ifp (by decide) ?_
  refine XGp.go 4 rfl ?_
  refine XGp.top 3 (by simp [upd]) ?_
  exact XGp.iret _ rfl rfl .int rfl rfl (rfl) trivial
theorem f_m_feed4 (d : Nat) (u g : Nat → XE) (w : Int64) : XCp (d + 5) 120 [.ref 525, .long w, .int 4] (xhm u g) (some (.int 4)) (fun _ => True) := by
  refine XCp.of (M := xm_X7_feed) rfl (Nat.le_of_ble_eq_true rfl) ?_
  refine XGp.go 3 rfl ?_
  refine XGp.callx [.int _, .int _, .int _] _ _ rfl xm_X7_in rfl rfl rfl rfl (fun q => absurd rfl q) (Nat.le_of_ble_eq_true rfl) (k_in _ _ _ _ _) ?_
  rw [show xin _ _ _ = 1 from by decide]
  refine XGp.go 1 rfl ?_
  refine XGp.ifn (by decide) ?_
  refine XGp.go 4 rfl ?_
  refine XGp.top 0 (by simp [upd]) ?_
  refine XGp.go 4 rfl ?_
  refine XGp.ifp (by decide) ?_
  refine XGp.go 6 rfl ?_
  refine XGp.ifn (by decide) ?_
  refine XGp.go 7 rfl ?_
  refine XGp.top 0 (by simp [upd]) ?_
  refine XGp.go 9 rfl ?_
  refine XGp.iast rfl rfl (Nat.le_of_ble_eq_true rfl) (Nat.le_of_ble_eq_true rfl) (by decide) ?_
  refine XGp.go 5 rfl ?_
  refine XGp.top 0 (by simp [upd]) ?_
  refine XGp.go 2 rfl ?_
  refine XGp.iast rfl rfl (Nat.le_of_ble_eq_true rfl) (Nat.le_of_ble_eq_true rfl) (by decide) ?_
  refine XGp.go 4 rfl ?_
  refine XGp.ifn (by decide) ?_
  refine XGp.go 7 rfl ?_
  refine XGp.top 1 (by simp [upd]) ?_
  refine XGp.go 9 rfl ?_
  refine XGp.iast rfl rfl (Nat.le_of_ble_eq_true rfl) (Nat.le_of_ble_eq_true rfl) (by decide) ?_
  refine XGp.go 5 rfl ?_
  refine XGp.top 1 (by simp [upd]) ?_
  refine XGp.go 2 rfl ?_
  refine XGp.iast rfl rfl (Nat.le_of_ble_eq_true rfl) (Nat.le_of_ble_eq_true rfl) (by decide) ?_
  refine XGp.go 4 rfl ?_
  refine XGp.ifn (by decide) ?_
  refine XGp.go 7 rfl ?_
  refine XGp.top 2 (by simp [upd]) ?_
  refine XGp.go 9 rfl ?_
  refine XGp.iast rfl rfl (Nat.le_of_ble_eq_true rfl) (Nat.le_of_ble_eq_true rfl) (by decide) ?_
  refine XGp.go 5 rfl ?_
  refine XGp.top 2 (by simp [upd]) ?_
  refine XGp.go 2 rfl ?_
  refine XGp.iast rfl rfl (Nat.le_of_ble_eq_true rfl) (Nat.le_of_ble_eq_true rfl) (by decide) ?_
  refine XGp.go 4 rfl ?_
  refine XGp.ifn (by decide) ?_
  refine XGp.go 7 rfl ?_
  refine XGp.top 3 (by simp [upd]) ?_
  refine XGp.go 9 rfl ?_
  refine XGp.iast rfl rfl (Nat.le_of_ble_eq_true rfl) (Nat.le_of_ble_eq_true rfl) (by decide) ?_
  refine XGp.go 5 rfl ?_
  refine XGp.top 3 (by simp [upd]) ?_
  refine XGp.go 2 rfl ?_
  refine XGp.iast rfl rfl (Nat.le_of_ble_eq_true rfl) (Nat.le_of_ble_eq_true rfl) (by decide) ?_
  refine XGp.go 4 rfl ?_
  refine XGp.ifp (by decide) ?_
  refine XGp.go 4 rfl ?_
  refine XGp.top 4 (by simp [upd]) ?_
  exact XGp.iret _ rfl rfl .int rfl rfl (rfl) trivial
theorem f_m_feed5 (d : Nat) (u g : Nat → XE) (w : Int64) : XCp (d + 5) 120 [.ref 525, .long w, .int 5] (xhm u g) (some (.int 5)) (fun _ => True) := by
  refine XCp.of (M := xm_X7_feed) rfl (Nat.le_of_ble_eq_true rfl) ?_
  refine XGp.go 3 rfl ?_
  refine XGp.callx [.int _, .int _, .int _] _ _ rfl xm_X7_in rfl rfl rfl rfl (fun q => absurd rfl q) (Nat.le_of_ble_eq_true rfl) (k_in _ _ _ _ _) ?_
  rw [show xin _ _ _ = 1 from by decide]
  refine XGp.go 1 rfl ?_
  refine XGp.ifn (by decide) ?_
  refine XGp.go 4 rfl ?_
  refine XGp.top 0 (by simp [upd]) ?_
  refine XGp.go 4 rfl ?_
  refine XGp.ifp (by decide) ?_
  refine XGp.go 6 rfl ?_
  refine XGp.ifn (by decide) ?_
  refine XGp.go 7 rfl ?_
  refine XGp.top 0 (by simp [upd]) ?_
  refine XGp.go 9 rfl ?_
  refine XGp.iast rfl rfl (Nat.le_of_ble_eq_true rfl) (Nat.le_of_ble_eq_true rfl) (by decide) ?_
  refine XGp.go 5 rfl ?_
  refine XGp.top 0 (by simp [upd]) ?_
  refine XGp.go 2 rfl ?_
  refine XGp.iast rfl rfl (Nat.le_of_ble_eq_true rfl) (Nat.le_of_ble_eq_true rfl) (by decide) ?_
  refine XGp.go 4 rfl ?_
  refine XGp.ifn (by decide) ?_
  refine XGp.go 7 rfl ?_
  refine XGp.top 1 (by simp [upd]) ?_
  refine XGp.go 9 rfl ?_
  refine XGp.iast rfl rfl (Nat.le_of_ble_eq_true rfl) (Nat.le_of_ble_eq_true rfl) (by decide) ?_
  refine XGp.go 5 rfl ?_
  refine XGp.top 1 (by simp [upd]) ?_
  refine XGp.go 2 rfl ?_
  refine XGp.iast rfl rfl (Nat.le_of_ble_eq_true rfl) (Nat.le_of_ble_eq_true rfl) (by decide) ?_
  refine XGp.go 4 rfl ?_
  refine XGp.ifn (by decide) ?_
  refine XGp.go 7 rfl ?_
  refine XGp.top 2 (by simp [upd]) ?_
  refine XGp.go 9 rfl ?_
  refine XGp.iast rfl rfl (Nat.le_of_ble_eq_true rfl) (Nat.le_of_ble_eq_true rfl) (by decide) ?_
  refine XGp.go 5 rfl ?_
  refine XGp.top 2 (by simp [upd]) ?_
  refine XGp.go 2 rfl ?_
  refine XGp.iast rfl rfl (Nat.le_of_ble_eq_true rfl) (Nat.le_of_ble_eq_true rfl) (by decide) ?_
  refine XGp.go 4 rfl ?_
  refine XGp.ifn (by decide) ?_
  refine XGp.go 7 rfl ?_
  refine XGp.top 3 (by simp [upd]) ?_
  refine XGp.go 9 rfl ?_
  refine XGp.iast rfl rfl (Nat.le_of_ble_eq_true rfl) (Nat.le_of_ble_eq_true rfl) (by decide) ?_
  refine XGp.go 5 rfl ?_
  refine XGp.top 3 (by simp [upd]) ?_
  refine XGp.go 2 rfl ?_
  refine XGp.iast rfl rfl (Nat.le_of_ble_eq_true rfl) (Nat.le_of_ble_eq_true rfl) (by decide) ?_
  refine XGp.go 4 rfl ?_
  refine XGp.ifn (by decide) ?_
  refine XGp.go 7 rfl ?_
  refine XGp.top 4 (by simp [upd]) ?_
  refine XGp.go 9 rfl ?_
  refine XGp.iast rfl rfl (Nat.le_of_ble_eq_true rfl) (Nat.le_of_ble_eq_true rfl) (by decide) ?_
  refine XGp.go 5 rfl ?_
  refine XGp.top 4 (by simp [upd]) ?_
  refine XGp.go 2 rfl ?_
  refine XGp.iast rfl rfl (Nat.le_of_ble_eq_true rfl) (Nat.le_of_ble_eq_true rfl) (by decide) ?_
  refine XGp.go 4 rfl ?_
  refine XGp.ifp (by decide) ?_
  refine XGp.go 4 rfl ?_
  refine XGp.top 5 (by simp [upd]) ?_
  exact XGp.iret _ rfl rfl .int rfl rfl (rfl) trivial
theorem f_m_feed6 (d : Nat) (u g : Nat → XE) (w : Int64) : XCp (d + 5) 120 [.ref 525, .long w, .int 6] (xhm u g) (some (.int 6)) (fun _ => True) := by
  refine XCp.of (M := xm_X7_feed) rfl (Nat.le_of_ble_eq_true rfl) ?_
  refine XGp.go 3 rfl ?_
  refine XGp.callx [.int _, .int _, .int _] _ _ rfl xm_X7_in rfl rfl rfl rfl (fun q => absurd rfl q) (Nat.le_of_ble_eq_true rfl) (k_in _ _ _ _ _) ?_
  rw [show xin _ _ _ = 1 from by decide]
  refine XGp.go 1 rfl ?_
  refine XGp.ifn (by decide) ?_
  refine XGp.go 4 rfl ?_
  refine XGp.top 0 (by simp [upd]) ?_
  refine XGp.go 4 rfl ?_
  refine XGp.ifp (by decide) ?_
  refine XGp.go 6 rfl ?_
  refine XGp.ifn (by decide) ?_
  refine XGp.go 7 rfl ?_
  refine XGp.top 0 (by simp [upd]) ?_
  refine XGp.go 9 rfl ?_
  refine XGp.iast rfl rfl (Nat.le_of_ble_eq_true rfl) (Nat.le_of_ble_eq_true rfl) (by decide) ?_
  refine XGp.go 5 rfl ?_
  refine XGp.top 0 (by simp [upd]) ?_
  refine XGp.go 2 rfl ?_
  refine XGp.iast rfl rfl (Nat.le_of_ble_eq_true rfl) (Nat.le_of_ble_eq_true rfl) (by decide) ?_
  refine XGp.go 4 rfl ?_
  refine XGp.ifn (by decide) ?_
  refine XGp.go 7 rfl ?_
  refine XGp.top 1 (by simp [upd]) ?_
  refine XGp.go 9 rfl ?_
  refine XGp.iast rfl rfl (Nat.le_of_ble_eq_true rfl) (Nat.le_of_ble_eq_true rfl) (by decide) ?_
  refine XGp.go 5 rfl ?_
  refine XGp.top 1 (by simp [upd]) ?_
  refine XGp.go 2 rfl ?_
  refine XGp.iast rfl rfl (Nat.le_of_ble_eq_true rfl) (Nat.le_of_ble_eq_true rfl) (by decide) ?_
  refine XGp.go 4 rfl ?_
  refine XGp.ifn (by decide) ?_
  refine XGp.go 7 rfl ?_
  refine XGp.top 2 (by simp [upd]) ?_
  refine XGp.go 9 rfl ?_
  refine XGp.iast rfl rfl (Nat.le_of_ble_eq_true rfl) (Nat.le_of_ble_eq_true rfl) (by decide) ?_
  refine XGp.go 5 rfl ?_
  refine XGp.top 2 (by simp [upd]) ?_
  refine XGp.go 2 rfl ?_
  refine XGp.iast rfl rfl (Nat.le_of_ble_eq_true rfl) (Nat.le_of_ble_eq_true rfl) (by decide) ?_
  refine XGp.go 4 rfl ?_
  refine XGp.ifn (by decide) ?_
  refine XGp.go 7 rfl ?_
  refine XGp.top 3 (by simp [upd]) ?_
  refine XGp.go 9 rfl ?_
  refine XGp.iast rfl rfl (Nat.le_of_ble_eq_true rfl) (Nat.le_of_ble_eq_true rfl) (by decide) ?_
  refine XGp.go 5 rfl ?_
  refine XGp.top 3 (by simp [upd]) ?_
  refine XGp.go 2 rfl ?_
  refine XGp.iast rfl rfl (Nat.le_of_ble_eq_true rfl) (Nat.le_of_ble_eq_true rfl) (by decide) ?_
  refine XGp.go 4 rfl ?_
  refine XGp.ifn (by decide) ?_
  refine XGp.go 7 rfl ?_
  refine XGp.top 4 (by simp [upd]) ?_
  refine XGp.go 9 rfl ?_
  refine XGp.iast rfl rfl (Nat.le_of_ble_eq_true rfl) (Nat.le_of_ble_eq_true rfl) (by decide) ?_
  refine XGp.go 5 rfl ?_
  refine XGp.top 4 (by simp [upd]) ?_
  refine XGp.go 2 rfl ?_
  refine XGp.iast rfl rfl (Nat.le_of_ble_eq_true rfl) (Nat.le_of_ble_eq_true rfl) (by decide) ?_
  refine XGp.go 4 rfl ?_
  refine XGp.ifn (by decide) ?_
  refine XGp.go 7 rfl ?_
  refine XGp.top 5 (by simp [upd]) ?_
  refine XGp.go 9 rfl ?_
  refine XGp.iast rfl rfl (Nat.le_of_ble_eq_true rfl) (Nat.le_of_ble_eq_true rfl) (by decide) ?_
  refine XGp.go 5 rfl ?_
  refine XGp.top 5 (by simp [upd]) ?_
  refine XGp.go 2 rfl ?_
  refine XGp.iast rfl rfl (Nat.le_of_ble_eq_true rfl) (Nat.le_of_ble_eq_true rfl) (by decide) ?_
  refine XGp.go 4 rfl ?_
  refine XGp.ifp (by decide) ?_
  refine XGp.go 4 rfl ?_
  refine XGp.top 6 (by simp [upd]) ?_
  exact XGp.iret _ rfl rfl .int rfl rfl (rfl) trivial
theorem f_m_feed7 (d : Nat) (u g : Nat → XE) (w : Int64) : XCp (d + 5) 120 [.ref 525, .long w, .int 7] (xhm u g) (some (.int 7)) (fun _ => True) := by
  refine XCp.of (M := xm_X7_feed) rfl (Nat.le_of_ble_eq_true rfl) ?_
  refine XGp.go 3 rfl ?_
  refine XGp.callx [.int _, .int _, .int _] _ _ rfl xm_X7_in rfl rfl rfl rfl (fun q => absurd rfl q) (Nat.le_of_ble_eq_true rfl) (k_in _ _ _ _ _) ?_
  rw [show xin _ _ _ = 1 from by decide]
  refine XGp.go 1 rfl ?_
  refine XGp.ifn (by decide) ?_
  refine XGp.go 4 rfl ?_
  refine XGp.top 0 (by simp [upd]) ?_
  refine XGp.go 4 rfl ?_
  refine XGp.ifp (by decide) ?_
  refine XGp.go 6 rfl ?_
  refine XGp.ifn (by decide) ?_
  refine XGp.go 7 rfl ?_
  refine XGp.top 0 (by simp [upd]) ?_
  refine XGp.go 9 rfl ?_
  refine XGp.iast rfl rfl (Nat.le_of_ble_eq_true rfl) (Nat.le_of_ble_eq_true rfl) (by decide) ?_
  refine XGp.go 5 rfl ?_
  refine XGp.top 0 (by simp [upd]) ?_
  refine XGp.go 2 rfl ?_
  refine XGp.iast rfl rfl (Nat.le_of_ble_eq_true rfl) (Nat.le_of_ble_eq_true rfl) (by decide) ?_
  refine XGp.go 4 rfl ?_
  refine XGp.ifn (by decide) ?_
  refine XGp.go 7 rfl ?_
  refine XGp.top 1 (by simp [upd]) ?_
  refine XGp.go 9 rfl ?_
  refine XGp.iast rfl rfl (Nat.le_of_ble_eq_true rfl) (Nat.le_of_ble_eq_true rfl) (by decide) ?_
  refine XGp.go 5 rfl ?_
  refine XGp.top 1 (by simp [upd]) ?_
  refine XGp.go 2 rfl ?_
  refine XGp.iast rfl rfl (Nat.le_of_ble_eq_true rfl) (Nat.le_of_ble_eq_true rfl) (by decide) ?_
  refine XGp.go 4 rfl ?_
  refine XGp.ifn (by decide) ?_
  refine XGp.go 7 rfl ?_
  refine XGp.top 2 (by simp [upd]) ?_
  refine XGp.go 9 rfl ?_
  refine XGp.iast rfl rfl (Nat.le_of_ble_eq_true rfl) (Nat.le_of_ble_eq_true rfl) (by decide) ?_
  refine XGp.go 5 rfl ?_
  refine XGp.top 2 (by simp [upd]) ?_
  refine XGp.go 2 rfl ?_
  refine XGp.iast rfl rfl (Nat.le_of_ble_eq_true rfl) (Nat.le_of_ble_eq_true rfl) (by decide) ?_
  refine XGp.go 4 rfl ?_
  refine XGp.ifn (by decide) ?_
  refine XGp.go 7 rfl ?_
  refine XGp.top 3 (by simp [upd]) ?_
  refine XGp.go 9 rfl ?_
  refine XGp.iast rfl rfl (Nat.le_of_ble_eq_true rfl) (Nat.le_of_ble_eq_true rfl) (by decide) ?_
  refine XGp.go 5 rfl ?_
  refine XGp.top 3 (by simp [upd]) ?_
  refine XGp.go 2 rfl ?_
  refine XGp.iast rfl rfl (Nat.le_of_ble_eq_true rfl) (Nat.le_of_ble_eq_true rfl) (by decide) ?_
  refine XGp.go 4 rfl ?_
  refine XGp.ifn (by decide) ?_
  refine XGp.go 7 rfl ?_
  refine XGp.top 4 (by simp [upd]) ?_
  refine XGp.go 9 rfl ?_
  refine XGp.iast rfl rfl (Nat.le_of_ble_eq_true rfl) (Nat.le_of_ble_eq_true rfl) (by decide) ?_
  refine XGp.go 5 rfl ?_
  refine XGp.top 4 (by simp [upd]) ?_
  refine XGp.go 2 rfl ?_
  refine XGp.iast rfl rfl (Nat.le_of_ble_eq_true rfl) (Nat.le_of_ble_eq_true rfl) (by decide) ?_
  refine XGp.go 4 rfl ?_
  refine XGp.ifn (by decide) ?_
  refine XGp.go 7 rfl ?_
  refine XGp.top 5 (by simp [upd]) ?_
  refine XGp.go 9 rfl ?_
  refine XGp.iast rfl rfl (Nat.le_of_ble_eq_true rfl) (Nat.le_of_ble_eq_true rfl) (by decide) ?_
  refine XGp.go 5 rfl ?_
  refine XGp.top 5 (by simp [upd]) ?_
  refine XGp.go 2 rfl ?_
  refine XGp.iast rfl rfl (Nat.le_of_ble_eq_true rfl) (Nat.le_of_ble_eq_true rfl) (by decide) ?_
  refine XGp.go 4 rfl ?_
  refine XGp.ifn (by decide) ?_
  refine XGp.go 7 rfl ?_
  refine XGp.top 6 (by simp [upd]) ?_
  refine XGp.go 9 rfl ?_
  refine XGp.iast rfl rfl (Nat.le_of_ble_eq_true rfl) (Nat.le_of_ble_eq_true rfl) (by decide) ?_
  refine XGp.go 5 rfl ?_
  refine XGp.top 6 (by simp [upd]) ?_
  refine XGp.go 2 rfl ?_
  refine XGp.iast rfl rfl (Nat.le_of_ble_eq_true rfl) (Nat.le_of_ble_eq_true rfl) (by decide) ?_
  refine XGp.go 4 rfl ?_
  refine XGp.ifp (by decide) ?_
  refine XGp.go 4 rfl ?_
  refine XGp.top 7 (by simp [upd]) ?_
  exact XGp.iret _ rfl rfl .int rfl rfl (rfl) trivial
theorem f_m_feed8 (d : Nat) (u g : Nat → XE) (w : Int64) : XCp (d + 5) 120 [.ref 525, .long w, .int 8] (xhm u g) (some (.int 8)) (fun _ => True) := by
  refine XCp.of (M := xm_X7_feed) rfl (Nat.le_of_ble_eq_true rfl) ?_
  refine XGp.go 3 rfl ?_
  refine XGp.callx [.int _, .int _, .int _] _ _ rfl xm_X7_in rfl rfl rfl rfl (fun q => absurd rfl q) (Nat.le_of_ble_eq_true rfl) (k_in _ _ _ _ _) ?_
  rw [show xin _ _ _ = 1 from by decide]
  refine XGp.go 1 rfl ?_
  refine XGp.ifn (by decide) ?_
  refine XGp.go 4 rfl ?_
  refine XGp.top 0 (by simp [upd]) ?_
  refine XGp.go 4 rfl ?_
  refine XGp.ifp (by decide) ?_
  refine XGp.go 6 rfl ?_
  refine XGp.ifn (by decide) ?_
  refine XGp.go 7 rfl ?_
  refine XGp.top 0 (by simp [upd]) ?_
  refine XGp.go 9 rfl ?_
  refine XGp.iast rfl rfl (Nat.le_of_ble_eq_true rfl) (Nat.le_of_ble_eq_true rfl) (by decide) ?_
  refine XGp.go 5 rfl ?_
  refine XGp.top 0 (by simp [upd]) ?_
  refine XGp.go 2 rfl ?_
  refine XGp.iast rfl rfl (Nat.le_of_ble_eq_true rfl) (Nat.le_of_ble_eq_true rfl) (by decide) ?_
  refine XGp.go 4 rfl ?_
  refine XGp.ifn (by decide) ?_
  refine XGp.go 7 rfl ?_
  refine XGp.top 1 (by simp [upd]) ?_
  refine XGp.go 9 rfl ?_
  refine XGp.iast rfl rfl (Nat.le_of_ble_eq_true rfl) (Nat.le_of_ble_eq_true rfl) (by decide) ?_
  refine XGp.go 5 rfl ?_
  refine XGp.top 1 (by simp [upd]) ?_
  refine XGp.go 2 rfl ?_
  refine XGp.iast rfl rfl (Nat.le_of_ble_eq_true rfl) (Nat.le_of_ble_eq_true rfl) (by decide) ?_
  refine XGp.go 4 rfl ?_
  refine XGp.ifn (by decide) ?_
  refine XGp.go 7 rfl ?_
  refine XGp.top 2 (by simp [upd]) ?_
  refine XGp.go 9 rfl ?_
  refine XGp.iast rfl rfl (Nat.le_of_ble_eq_true rfl) (Nat.le_of_ble_eq_true rfl) (by decide) ?_
  refine XGp.go 5 rfl ?_
  refine XGp.top 2 (by simp [upd]) ?_
  refine XGp.go 2 rfl ?_
  refine XGp.iast rfl rfl (Nat.le_of_ble_eq_true rfl) (Nat.le_of_ble_eq_true rfl) (by decide) ?_
  refine XGp.go 4 rfl ?_
  refine XGp.ifn (by decide) ?_
  refine XGp.go 7 rfl ?_
  refine XGp.top 3 (by simp [upd]) ?_
  refine XGp.go 9 rfl ?_
  refine XGp.iast rfl rfl (Nat.le_of_ble_eq_true rfl) (Nat.le_of_ble_eq_true rfl) (by decide) ?_
  refine XGp.go 5 rfl ?_
  refine XGp.top 3 (by simp [upd]) ?_
  refine XGp.go 2 rfl ?_
  refine XGp.iast rfl rfl (Nat.le_of_ble_eq_true rfl) (Nat.le_of_ble_eq_true rfl) (by decide) ?_
  refine XGp.go 4 rfl ?_
  refine XGp.ifn (by decide) ?_
  refine XGp.go 7 rfl ?_
  refine XGp.top 4 (by simp [upd]) ?_
  refine XGp.go 9 rfl ?_
  refine XGp.iast rfl rfl (Nat.le_of_ble_eq_true rfl) (Nat.le_of_ble_eq_true rfl) (by decide) ?_
  refine XGp.go 5 rfl ?_
  refine XGp.top 4 (by simp [upd]) ?_
  refine XGp.go 2 rfl ?_
  refine XGp.iast rfl rfl (Nat.le_of_ble_eq_true rfl) (Nat.le_of_ble_eq_true rfl) (by decide) ?_
  refine XGp.go 4 rfl ?_
  refine XGp.ifn (by decide) ?_
  refine XGp.go 7 rfl ?_
  refine XGp.top 5 (by simp [upd]) ?_
  refine XGp.go 9 rfl ?_
  refine XGp.iast rfl rfl (Nat.le_of_ble_eq_true rfl) (Nat.le_of_ble_eq_true rfl) (by decide) ?_
  refine XGp.go 5 rfl ?_
  refine XGp.top 5 (by simp [upd]) ?_
  refine XGp.go 2 rfl ?_
  refine XGp.iast rfl rfl (Nat.le_of_ble_eq_true rfl) (Nat.le_of_ble_eq_true rfl) (by decide) ?_
  refine XGp.go 4 rfl ?_
  refine XGp.ifn (by decide) ?_
  refine XGp.go 7 rfl ?_
  refine XGp.top 6 (by simp [upd]) ?_
  refine XGp.go 9 rfl ?_
  refine XGp.iast rfl rfl (Nat.le_of_ble_eq_true rfl) (Nat.le_of_ble_eq_true rfl) (by decide) ?_
  refine XGp.go 5 rfl ?_
  refine XGp.top 6 (by simp [upd]) ?_
  refine XGp.go 2 rfl ?_
  refine XGp.iast rfl rfl (Nat.le_of_ble_eq_true rfl) (Nat.le_of_ble_eq_true rfl) (by decide) ?_
  refine XGp.go 4 rfl ?_
  refine XGp.ifn (by decide) ?_
  refine XGp.go 7 rfl ?_
  refine XGp.top 7 (by simp [upd]) ?_
  refine XGp.go 9 rfl ?_
  refine XGp.iast rfl rfl (Nat.le_of_ble_eq_true rfl) (Nat.le_of_ble_eq_true rfl) (by decide) ?_
  refine XGp.go 5 rfl ?_
  refine XGp.top 7 (by simp [upd]) ?_
  refine XGp.go 2 rfl ?_
  refine XGp.iast rfl rfl (Nat.le_of_ble_eq_true rfl) (Nat.le_of_ble_eq_true rfl) (by decide) ?_
  refine XGp.go 4 rfl ?_
  refine XGp.ifp (by decide) ?_
  refine XGp.go 4 rfl ?_
  refine XGp.top 8 (by simp [upd]) ?_
  exact XGp.iret _ rfl rfl .int rfl rfl (rfl) trivial
