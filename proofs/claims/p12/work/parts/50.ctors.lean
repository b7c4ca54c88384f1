def xb_X1_init (q : Nat) : List XE := [.inl (1, [.int 0, .ref (q + 1), .ref (q + 2)]), .inr (.inl (0, 24, fun _ => 0)), .inr (.inl (0, 24, fun _ => 0))]
theorem k_X1_init (d : Nat) (h : XH) (h2 : 13 ≤ h.1) : XCall xM (d + 1) 10 [.ref h.1] (xblk h [.inl (1, xdef 1)] 3) none (xblk h (xb_X1_init h.1) 51) := by
  refine XCall.of (M := xm_X1_init) rfl (Nat.le_of_ble_eq_true rfl) ?_
  refine XGo.go 4 rfl ?_
  refine XGo.naB rfl ⟨by decide, by decide⟩ 24 (by decide) ?_
  refine XGo.putB 0 rfl rfl h2 (Nat.le_of_ble_eq_true rfl) rfl rfl ?_
  show XGo _ _ (_, _, _, xblk h [.inl (1, [.int 0, .ref (h.1 + 1), .null]), .inr (.inl (0, 24, fun _ => 0))] 27) _ _
  refine XGo.go 2 rfl ?_
  refine XGo.naB rfl ⟨by decide, by decide⟩ 24 (by decide) ?_
  refine XGo.putB 0 rfl rfl h2 (Nat.le_of_ble_eq_true rfl) rfl rfl ?_
  show XGo _ _ (_, _, _, xblk h [.inl (1, [.int 0, .ref (h.1 + 1), .ref (h.1 + 2)]), .inr (.inl (0, 24, fun _ => 0)), .inr (.inl (0, 24, fun _ => 0))] 51) _ _
  exact XGo.vret _ rfl rfl rfl
def xb_X4_init (q : Nat) : List XE := [.inl (4, [.ref (q + 1), .ref (q + 2), .ref (q + 3), .int 0, .int 0, .int 0, .int 0]), .inr (.inl (0, 41, fun _ => 0)), .inr (.inl (0, 41, fun _ => 0)), .inr (.inl (0, 6, fun _ => 0))]
theorem k_X4_init (d : Nat) (h : XH) (h2 : 13 ≤ h.1) : XCall xM (d + 1) 42 [.ref h.1] (xblk h [.inl (4, xdef 4)] 7) none (xblk h (xb_X4_init h.1) 95) := by
  refine XCall.of (M := xm_X4_init) rfl (Nat.le_of_ble_eq_true rfl) ?_
  refine XGo.go 4 rfl ?_
  refine XGo.naB rfl ⟨by decide, by decide⟩ 41 (by decide) ?_
  refine XGo.putB 0 rfl rfl h2 (Nat.le_of_ble_eq_true rfl) rfl rfl ?_
  show XGo _ _ (_, _, _, xblk h [.inl (4, [.ref (h.1 + 1), .null, .null, .int 0, .int 0, .int 0, .int 0]), .inr (.inl (0, 41, fun _ => 0))] 48) _ _
  refine XGo.go 2 rfl ?_
  refine XGo.naB rfl ⟨by decide, by decide⟩ 41 (by decide) ?_
  refine XGo.putB 0 rfl rfl h2 (Nat.le_of_ble_eq_true rfl) rfl rfl ?_
  show XGo _ _ (_, _, _, xblk h [.inl (4, [.ref (h.1 + 1), .ref (h.1 + 2), .null, .int 0, .int 0, .int 0, .int 0]), .inr (.inl (0, 41, fun _ => 0)), .inr (.inl (0, 41, fun _ => 0))] 89) _ _
  refine XGo.go 2 rfl ?_
  refine XGo.naB rfl ⟨by decide, by decide⟩ 6 (by decide) ?_
  refine XGo.putB 0 rfl rfl h2 (Nat.le_of_ble_eq_true rfl) rfl rfl ?_
  show XGo _ _ (_, _, _, xblk h [.inl (4, [.ref (h.1 + 1), .ref (h.1 + 2), .ref (h.1 + 3), .int 0, .int 0, .int 0, .int 0]), .inr (.inl (0, 41, fun _ => 0)), .inr (.inl (0, 41, fun _ => 0)), .inr (.inl (0, 6, fun _ => 0))] 95) _ _
  exact XGo.vret _ rfl rfl rfl
def xb_X2_init (q : Nat) : List XE := [.inl (2, [.int 0, .int 0, .int 0])]
theorem k_X2_init (d : Nat) (h : XH) (h2 : 13 ≤ h.1) : XCall xM (d + 1) 23 [.ref h.1] (xblk h [.inl (2, xdef 2)] 3) none (xblk h (xb_X2_init h.1) 3) := by
  refine XCall.of (M := xm_X2_init) rfl (Nat.le_of_ble_eq_true rfl) ?_
  refine XGo.go 2 rfl ?_
  exact XGo.vret _ rfl rfl rfl
def xb_X0_init (q : Nat) : List XE := [.inl (0, [.int 0, .ref (q + 1), .ref (q + 2), .ref (q + 3), .ref (q + 4), .ref (q + 5), .ref (q + 6), .int 0, .int 0, .int 0, .int 0, .int 0]), .inr (.inl (0, 41, fun _ => 0)), .inr (.inl (0, 41, fun _ => 0)), .inr (.inl (0, 41, fun _ => 0)), .inr (.inl (0, 14, fun _ => 0)), .inr (.inl (0, 14, fun _ => 0)), .inr (.inl (0, 14, fun _ => 0))]
theorem k_X0_init (d : Nat) (h : XH) (h2 : 13 ≤ h.1) : XCall xM (d + 1) 0 [.ref h.1] (xblk h [.inl (0, xdef 0)] 12) none (xblk h (xb_X0_init h.1) 177) := by
  refine XCall.of (M := xm_X0_init) rfl (Nat.le_of_ble_eq_true rfl) ?_
  refine XGo.go 4 rfl ?_
  refine XGo.naB rfl ⟨by decide, by decide⟩ 41 (by decide) ?_
  refine XGo.putB 0 rfl rfl h2 (Nat.le_of_ble_eq_true rfl) rfl rfl ?_
  show XGo _ _ (_, _, _, xblk h [.inl (0, [.int 0, .ref (h.1 + 1), .null, .null, .null, .null, .null, .int 0, .int 0, .int 0, .int 0, .int 0]), .inr (.inl (0, 41, fun _ => 0))] 53) _ _
  refine XGo.go 2 rfl ?_
  refine XGo.naB rfl ⟨by decide, by decide⟩ 41 (by decide) ?_
  refine XGo.putB 0 rfl rfl h2 (Nat.le_of_ble_eq_true rfl) rfl rfl ?_
  show XGo _ _ (_, _, _, xblk h [.inl (0, [.int 0, .ref (h.1 + 1), .ref (h.1 + 2), .null, .null, .null, .null, .int 0, .int 0, .int 0, .int 0, .int 0]), .inr (.inl (0, 41, fun _ => 0)), .inr (.inl (0, 41, fun _ => 0))] 94) _ _
  refine XGo.go 2 rfl ?_
  refine XGo.naB rfl ⟨by decide, by decide⟩ 41 (by decide) ?_
  refine XGo.putB 0 rfl rfl h2 (Nat.le_of_ble_eq_true rfl) rfl rfl ?_
  show XGo _ _ (_, _, _, xblk h [.inl (0, [.int 0, .ref (h.1 + 1), .ref (h.1 + 2), .ref (h.1 + 3), .null, .null, .null, .int 0, .int 0, .int 0, .int 0, .int 0]), .inr (.inl (0, 41, fun _ => 0)), .inr (.inl (0, 41, fun _ => 0)), .inr (.inl (0, 41, fun _ => 0))] 135) _ _
  refine XGo.go 2 rfl ?_
  refine XGo.naB rfl ⟨by decide, by decide⟩ 14 (by decide) ?_
  refine XGo.putB 0 rfl rfl h2 (Nat.le_of_ble_eq_true rfl) rfl rfl ?_
  show XGo _ _ (_, _, _, xblk h [.inl (0, [.int 0, .ref (h.1 + 1), .ref (h.1 + 2), .ref (h.1 + 3), .ref (h.1 + 4), .null, .null, .int 0, .int 0, .int 0, .int 0, .int 0]), .inr (.inl (0, 41, fun _ => 0)), .inr (.inl (0, 41, fun _ => 0)), .inr (.inl (0, 41, fun _ => 0)), .inr (.inl (0, 14, fun _ => 0))] 149) _ _
  refine XGo.go 2 rfl ?_
  refine XGo.naB rfl ⟨by decide, by decide⟩ 14 (by decide) ?_
  refine XGo.putB 0 rfl rfl h2 (Nat.le_of_ble_eq_true rfl) rfl rfl ?_
  show XGo _ _ (_, _, _, xblk h [.inl (0, [.int 0, .ref (h.1 + 1), .ref (h.1 + 2), .ref (h.1 + 3), .ref (h.1 + 4), .ref (h.1 + 5), .null, .int 0, .int 0, .int 0, .int 0, .int 0]), .inr (.inl (0, 41, fun _ => 0)), .inr (.inl (0, 41, fun _ => 0)), .inr (.inl (0, 41, fun _ => 0)), .inr (.inl (0, 14, fun _ => 0)), .inr (.inl (0, 14, fun _ => 0))] 163) _ _
  refine XGo.go 2 rfl ?_
  refine XGo.naB rfl ⟨by decide, by decide⟩ 14 (by decide) ?_
  refine XGo.putB 0 rfl rfl h2 (Nat.le_of_ble_eq_true rfl) rfl rfl ?_
  show XGo _ _ (_, _, _, xblk h [.inl (0, [.int 0, .ref (h.1 + 1), .ref (h.1 + 2), .ref (h.1 + 3), .ref (h.1 + 4), .ref (h.1 + 5), .ref (h.1 + 6), .int 0, .int 0, .int 0, .int 0, .int 0]), .inr (.inl (0, 41, fun _ => 0)), .inr (.inl (0, 41, fun _ => 0)), .inr (.inl (0, 41, fun _ => 0)), .inr (.inl (0, 14, fun _ => 0)), .inr (.inl (0, 14, fun _ => 0)), .inr (.inl (0, 14, fun _ => 0))] 177) _ _
  exact XGo.vret _ rfl rfl rfl
def xb_X3_init (q : Nat) : List XE := [.inl (3, [.ref (q + 1), .ref (q + 4), .int 0, .int 0]), .inl (1, [.int 0, .ref (q + 2), .ref (q + 3)]), .inr (.inl (0, 24, fun _ => 0)), .inr (.inl (0, 24, fun _ => 0)), .inr (.inl (0, 80, fun _ => 0))]
theorem k_X3_init (d : Nat) (h : XH) (h2 : 13 ≤ h.1) : XCall xM (d + 2) 30 [.ref h.1] (xblk h [.inl (3, xdef 3)] 4) none (xblk h (xb_X3_init h.1) 135) := by
  refine XCall.of (M := xm_X3_init) rfl (Nat.le_of_ble_eq_true rfl) ?_
  refine XGo.go 3 rfl ?_
  refine XGo.newB rfl ?_
  refine XGo.go 1 rfl ?_
  refine XGo.iniB (s1 := 3) _ rfl xm_X1_init rfl rfl rfl rfl (Nat.le_of_ble_eq_true rfl) h2 _ rfl xb_X1_init (fun h0 q0 => k_X1_init _ h0 q0) ?_
  show XGo _ _ (_, _, _, xblk h [.inl (3, [.null, .null, .int 0, .int 0]), .inl (1, [.int 0, .ref (h.1 + 2), .ref (h.1 + 3)]), .inr (.inl (0, 24, fun _ => 0)), .inr (.inl (0, 24, fun _ => 0))] 55) _ _
  refine XGo.putB 0 rfl rfl h2 (Nat.le_of_ble_eq_true rfl) rfl rfl ?_
  show XGo _ _ (_, _, _, xblk h [.inl (3, [.ref (h.1 + 1), .null, .int 0, .int 0]), .inl (1, [.int 0, .ref (h.1 + 2), .ref (h.1 + 3)]), .inr (.inl (0, 24, fun _ => 0)), .inr (.inl (0, 24, fun _ => 0))] 55) _ _
  refine XGo.go 2 rfl ?_
  refine XGo.naB rfl ⟨by decide, by decide⟩ 80 (by decide) ?_
  refine XGo.putB 0 rfl rfl h2 (Nat.le_of_ble_eq_true rfl) rfl rfl ?_
  show XGo _ _ (_, _, _, xblk h [.inl (3, [.ref (h.1 + 1), .ref (h.1 + 4), .int 0, .int 0]), .inl (1, [.int 0, .ref (h.1 + 2), .ref (h.1 + 3)]), .inr (.inl (0, 24, fun _ => 0)), .inr (.inl (0, 24, fun _ => 0)), .inr (.inl (0, 80, fun _ => 0))] 135) _ _
  exact XGo.vret _ rfl rfl rfl
def xb_X5_init (q : Nat) : List XE := [.inl (5, [.int 0, .ref (q + 1), .ref (q + 2), .int 0, .ref (q + 3), .ref (q + 4), .ref (q + 5), .int 0, .ref (q + 6), .int 0, .ref (q + 7), .int 0, .ref (q + 8), .int 0, .ref (q + 9)]), .inr (.inl (0, 8, fun _ => 0)), .inr (.inl (0, 8, fun _ => 0)), .inr (.inl (0, 6, fun _ => 0)), .inr (.inl (0, 6, fun _ => 0)), .inr (.inl (0, 6, fun _ => 0)), .inr (.inr (3, 6, (va_up (va_up (va_up (va_up (va_up (va_up (fun _ => none) 0 (some (q + 10))) 1 (some (q + 13))) 2 (some (q + 16))) 3 (some (q + 19))) 4 (some (q + 22))) 5 (some (q + 25))))), .inr (.inl (0, 80, fun _ => 0)), .inr (.inl (0, 41, fun _ => 0)), .inr (.inl (0, 20, fun _ => 0)), .inl (1, [.int 0, .ref (q + 11), .ref (q + 12)]), .inr (.inl (0, 24, fun _ => 0)), .inr (.inl (0, 24, fun _ => 0)), .inl (1, [.int 0, .ref (q + 14), .ref (q + 15)]), .inr (.inl (0, 24, fun _ => 0)), .inr (.inl (0, 24, fun _ => 0)), .inl (1, [.int 0, .ref (q + 17), .ref (q + 18)]), .inr (.inl (0, 24, fun _ => 0)), .inr (.inl (0, 24, fun _ => 0)), .inl (1, [.int 0, .ref (q + 20), .ref (q + 21)]), .inr (.inl (0, 24, fun _ => 0)), .inr (.inl (0, 24, fun _ => 0)), .inl (1, [.int 0, .ref (q + 23), .ref (q + 24)]), .inr (.inl (0, 24, fun _ => 0)), .inr (.inl (0, 24, fun _ => 0)), .inl (1, [.int 0, .ref (q + 26), .ref (q + 27)]), .inr (.inl (0, 24, fun _ => 0)), .inr (.inl (0, 24, fun _ => 0))]
theorem k_X5_init (d : Nat) (h : XH) (h2 : 13 ≤ h.1) : XCall xM (d + 2) 53 [.ref h.1] (xblk h [.inl (5, xdef 5)] 15) none (xblk h (xb_X5_init h.1) 502) := by
  refine XCall.of (M := xm_X5_init) rfl (Nat.le_of_ble_eq_true rfl) ?_
  refine XGo.go 4 rfl ?_
  refine XGo.naB rfl ⟨by decide, by decide⟩ 8 (by decide) ?_
  refine XGo.putB 0 rfl rfl h2 (Nat.le_of_ble_eq_true rfl) rfl rfl ?_
  show XGo _ _ (_, _, _, xblk h [.inl (5, [.int 0, .ref (h.1 + 1), .null, .int 0, .null, .null, .null, .int 0, .null, .int 0, .null, .int 0, .null, .int 0, .null]), .inr (.inl (0, 8, fun _ => 0))] 23) _ _
  refine XGo.go 2 rfl ?_
  refine XGo.naB rfl ⟨by decide, by decide⟩ 8 (by decide) ?_
  refine XGo.putB 0 rfl rfl h2 (Nat.le_of_ble_eq_true rfl) rfl rfl ?_
  show XGo _ _ (_, _, _, xblk h [.inl (5, [.int 0, .ref (h.1 + 1), .ref (h.1 + 2), .int 0, .null, .null, .null, .int 0, .null, .int 0, .null, .int 0, .null, .int 0, .null]), .inr (.inl (0, 8, fun _ => 0)), .inr (.inl (0, 8, fun _ => 0))] 31) _ _
  refine XGo.go 2 rfl ?_
  refine XGo.naB rfl ⟨by decide, by decide⟩ 6 (by decide) ?_
  refine XGo.putB 0 rfl rfl h2 (Nat.le_of_ble_eq_true rfl) rfl rfl ?_
  show XGo _ _ (_, _, _, xblk h [.inl (5, [.int 0, .ref (h.1 + 1), .ref (h.1 + 2), .int 0, .ref (h.1 + 3), .null, .null, .int 0, .null, .int 0, .null, .int 0, .null, .int 0, .null]), .inr (.inl (0, 8, fun _ => 0)), .inr (.inl (0, 8, fun _ => 0)), .inr (.inl (0, 6, fun _ => 0))] 37) _ _
  refine XGo.go 2 rfl ?_
  refine XGo.naB rfl ⟨by decide, by decide⟩ 6 (by decide) ?_
  refine XGo.putB 0 rfl rfl h2 (Nat.le_of_ble_eq_true rfl) rfl rfl ?_
  show XGo _ _ (_, _, _, xblk h [.inl (5, [.int 0, .ref (h.1 + 1), .ref (h.1 + 2), .int 0, .ref (h.1 + 3), .ref (h.1 + 4), .null, .int 0, .null, .int 0, .null, .int 0, .null, .int 0, .null]), .inr (.inl (0, 8, fun _ => 0)), .inr (.inl (0, 8, fun _ => 0)), .inr (.inl (0, 6, fun _ => 0)), .inr (.inl (0, 6, fun _ => 0))] 43) _ _
  refine XGo.go 2 rfl ?_
  refine XGo.naB rfl ⟨by decide, by decide⟩ 6 (by decide) ?_
  refine XGo.putB 0 rfl rfl h2 (Nat.le_of_ble_eq_true rfl) rfl rfl ?_
  show XGo _ _ (_, _, _, xblk h [.inl (5, [.int 0, .ref (h.1 + 1), .ref (h.1 + 2), .int 0, .ref (h.1 + 3), .ref (h.1 + 4), .ref (h.1 + 5), .int 0, .null, .int 0, .null, .int 0, .null, .int 0, .null]), .inr (.inl (0, 8, fun _ => 0)), .inr (.inl (0, 8, fun _ => 0)), .inr (.inl (0, 6, fun _ => 0)), .inr (.inl (0, 6, fun _ => 0)), .inr (.inl (0, 6, fun _ => 0))] 49) _ _
  refine XGo.go 2 rfl ?_
  refine XGo.nrB rfl ⟨by decide, by decide⟩ 6 (by decide) ?_
  refine XGo.putB 0 rfl rfl h2 (Nat.le_of_ble_eq_true rfl) rfl rfl ?_
  show XGo _ _ (_, _, _, xblk h [.inl (5, [.int 0, .ref (h.1 + 1), .ref (h.1 + 2), .int 0, .ref (h.1 + 3), .ref (h.1 + 4), .ref (h.1 + 5), .int 0, .ref (h.1 + 6), .int 0, .null, .int 0, .null, .int 0, .null]), .inr (.inl (0, 8, fun _ => 0)), .inr (.inl (0, 8, fun _ => 0)), .inr (.inl (0, 6, fun _ => 0)), .inr (.inl (0, 6, fun _ => 0)), .inr (.inl (0, 6, fun _ => 0)), .inr (.inr (3, 6, (fun _ => none)))] 55) _ _
  refine XGo.go 2 rfl ?_
  refine XGo.naB rfl ⟨by decide, by decide⟩ 80 (by decide) ?_
  refine XGo.putB 0 rfl rfl h2 (Nat.le_of_ble_eq_true rfl) rfl rfl ?_
  show XGo _ _ (_, _, _, xblk h [.inl (5, [.int 0, .ref (h.1 + 1), .ref (h.1 + 2), .int 0, .ref (h.1 + 3), .ref (h.1 + 4), .ref (h.1 + 5), .int 0, .ref (h.1 + 6), .int 0, .ref (h.1 + 7), .int 0, .null, .int 0, .null]), .inr (.inl (0, 8, fun _ => 0)), .inr (.inl (0, 8, fun _ => 0)), .inr (.inl (0, 6, fun _ => 0)), .inr (.inl (0, 6, fun _ => 0)), .inr (.inl (0, 6, fun _ => 0)), .inr (.inr (3, 6, (fun _ => none))), .inr (.inl (0, 80, fun _ => 0))] 135) _ _
  refine XGo.go 2 rfl ?_
  refine XGo.naB rfl ⟨by decide, by decide⟩ 41 (by decide) ?_
  refine XGo.putB 0 rfl rfl h2 (Nat.le_of_ble_eq_true rfl) rfl rfl ?_
  show XGo _ _ (_, _, _, xblk h [.inl (5, [.int 0, .ref (h.1 + 1), .ref (h.1 + 2), .int 0, .ref (h.1 + 3), .ref (h.1 + 4), .ref (h.1 + 5), .int 0, .ref (h.1 + 6), .int 0, .ref (h.1 + 7), .int 0, .ref (h.1 + 8), .int 0, .null]), .inr (.inl (0, 8, fun _ => 0)), .inr (.inl (0, 8, fun _ => 0)), .inr (.inl (0, 6, fun _ => 0)), .inr (.inl (0, 6, fun _ => 0)), .inr (.inl (0, 6, fun _ => 0)), .inr (.inr (3, 6, (fun _ => none))), .inr (.inl (0, 80, fun _ => 0)), .inr (.inl (0, 41, fun _ => 0))] 176) _ _
  refine XGo.go 2 rfl ?_
  refine XGo.naB rfl ⟨by decide, by decide⟩ 20 (by decide) ?_
  refine XGo.putB 0 rfl rfl h2 (Nat.le_of_ble_eq_true rfl) rfl rfl ?_
  show XGo _ _ (_, _, _, xblk h [.inl (5, [.int 0, .ref (h.1 + 1), .ref (h.1 + 2), .int 0, .ref (h.1 + 3), .ref (h.1 + 4), .ref (h.1 + 5), .int 0, .ref (h.1 + 6), .int 0, .ref (h.1 + 7), .int 0, .ref (h.1 + 8), .int 0, .ref (h.1 + 9)]), .inr (.inl (0, 8, fun _ => 0)), .inr (.inl (0, 8, fun _ => 0)), .inr (.inl (0, 6, fun _ => 0)), .inr (.inl (0, 6, fun _ => 0)), .inr (.inl (0, 6, fun _ => 0)), .inr (.inr (3, 6, (fun _ => none))), .inr (.inl (0, 80, fun _ => 0)), .inr (.inl (0, 41, fun _ => 0)), .inr (.inl (0, 20, fun _ => 0))] 196) _ _
  refine XGo.go 4 rfl ?_
  refine XGo.getB 0 rfl rfl h2 rfl (by decide) ?_
  refine XGo.alenB 6 rfl rfl h2 (by decide) ?_
  refine XGo.go 1 rfl ?_
  refine XGo.ifn (by decide) ?_
  refine XGo.go 1 rfl ?_
  refine XGo.getB 0 rfl rfl h2 rfl (by decide) ?_
  refine XGo.go 1 rfl ?_
  refine XGo.newB rfl ?_
  refine XGo.go 1 rfl ?_
  refine XGo.iniB (s1 := 3) _ rfl xm_X1_init rfl rfl rfl rfl (Nat.le_of_ble_eq_true rfl) h2 _ rfl xb_X1_init (fun h0 q0 => k_X1_init _ h0 q0) ?_
  show XGo _ _ (_, _, _, xblk h [.inl (5, [.int 0, .ref (h.1 + 1), .ref (h.1 + 2), .int 0, .ref (h.1 + 3), .ref (h.1 + 4), .ref (h.1 + 5), .int 0, .ref (h.1 + 6), .int 0, .ref (h.1 + 7), .int 0, .ref (h.1 + 8), .int 0, .ref (h.1 + 9)]), .inr (.inl (0, 8, fun _ => 0)), .inr (.inl (0, 8, fun _ => 0)), .inr (.inl (0, 6, fun _ => 0)), .inr (.inl (0, 6, fun _ => 0)), .inr (.inl (0, 6, fun _ => 0)), .inr (.inr (3, 6, (fun _ => none))), .inr (.inl (0, 80, fun _ => 0)), .inr (.inl (0, 41, fun _ => 0)), .inr (.inl (0, 20, fun _ => 0)), .inl (1, [.int 0, .ref (h.1 + 11), .ref (h.1 + 12)]), .inr (.inl (0, 24, fun _ => 0)), .inr (.inl (0, 24, fun _ => 0))] 247) _ _
  refine XGo.aastB 6 10 rfl rfl rfl h2 (by decide) (by decide) ?_
  show XGo _ _ (_, _, _, xblk h [.inl (5, [.int 0, .ref (h.1 + 1), .ref (h.1 + 2), .int 0, .ref (h.1 + 3), .ref (h.1 + 4), .ref (h.1 + 5), .int 0, .ref (h.1 + 6), .int 0, .ref (h.1 + 7), .int 0, .ref (h.1 + 8), .int 0, .ref (h.1 + 9)]), .inr (.inl (0, 8, fun _ => 0)), .inr (.inl (0, 8, fun _ => 0)), .inr (.inl (0, 6, fun _ => 0)), .inr (.inl (0, 6, fun _ => 0)), .inr (.inl (0, 6, fun _ => 0)), .inr (.inr (3, 6, (va_up (fun _ => none) 0 (some (h.1 + 10))))), .inr (.inl (0, 80, fun _ => 0)), .inr (.inl (0, 41, fun _ => 0)), .inr (.inl (0, 20, fun _ => 0)), .inl (1, [.int 0, .ref (h.1 + 11), .ref (h.1 + 12)]), .inr (.inl (0, 24, fun _ => 0)), .inr (.inl (0, 24, fun _ => 0))] 247) _ _
  refine XGo.go 4 rfl ?_
  refine XGo.getB 0 rfl rfl h2 rfl (by decide) ?_
  refine XGo.alenB 6 rfl rfl h2 (by decide) ?_
  refine XGo.go 1 rfl ?_
  refine XGo.ifn (by decide) ?_
  refine XGo.go 1 rfl ?_
  refine XGo.getB 0 rfl rfl h2 rfl (by decide) ?_
  refine XGo.go 1 rfl ?_
  refine XGo.newB rfl ?_
  refine XGo.go 1 rfl ?_
  refine XGo.iniB (s1 := 3) _ rfl xm_X1_init rfl rfl rfl rfl (Nat.le_of_ble_eq_true rfl) h2 _ rfl xb_X1_init (fun h0 q0 => k_X1_init _ h0 q0) ?_
  show XGo _ _ (_, _, _, xblk h [.inl (5, [.int 0, .ref (h.1 + 1), .ref (h.1 + 2), .int 0, .ref (h.1 + 3), .ref (h.1 + 4), .ref (h.1 + 5), .int 0, .ref (h.1 + 6), .int 0, .ref (h.1 + 7), .int 0, .ref (h.1 + 8), .int 0, .ref (h.1 + 9)]), .inr (.inl (0, 8, fun _ => 0)), .inr (.inl (0, 8, fun _ => 0)), .inr (.inl (0, 6, fun _ => 0)), .inr (.inl (0, 6, fun _ => 0)), .inr (.inl (0, 6, fun _ => 0)), .inr (.inr (3, 6, (va_up (fun _ => none) 0 (some (h.1 + 10))))), .inr (.inl (0, 80, fun _ => 0)), .inr (.inl (0, 41, fun _ => 0)), .inr (.inl (0, 20, fun _ => 0)), .inl (1, [.int 0, .ref (h.1 + 11), .ref (h.1 + 12)]), .inr (.inl (0, 24, fun _ => 0)), .inr (.inl (0, 24, fun _ => 0)), .inl (1, [.int 0, .ref (h.1 + 14), .ref (h.1 + 15)]), .inr (.inl (0, 24, fun _ => 0)), .inr (.inl (0, 24, fun _ => 0))] 298) _ _
  refine XGo.aastB 6 13 rfl rfl rfl h2 (by decide) (by decide) ?_
  show XGo _ _ (_, _, _, xblk h [.inl (5, [.int 0, .ref (h.1 + 1), .ref (h.1 + 2), .int 0, .ref (h.1 + 3), .ref (h.1 + 4), .ref (h.1 + 5), .int 0, .ref (h.1 + 6), .int 0, .ref (h.1 + 7), .int 0, .ref (h.1 + 8), .int 0, .ref (h.1 + 9)]), .inr (.inl (0, 8, fun _ => 0)), .inr (.inl (0, 8, fun _ => 0)), .inr (.inl (0, 6, fun _ => 0)), .inr (.inl (0, 6, fun _ => 0)), .inr (.inl (0, 6, fun _ => 0)), .inr (.inr (3, 6, (va_up (va_up (fun _ => none) 0 (some (h.1 + 10))) 1 (some (h.1 + 13))))), .inr (.inl (0, 80, fun _ => 0)), .inr (.inl (0, 41, fun _ => 0)), .inr (.inl (0, 20, fun _ => 0)), .inl (1, [.int 0, .ref (h.1 + 11), .ref (h.1 + 12)]), .inr (.inl (0, 24, fun _ => 0)), .inr (.inl (0, 24, fun _ => 0)), .inl (1, [.int 0, .ref (h.1 + 14), .ref (h.1 + 15)]), .inr (.inl (0, 24, fun _ => 0)), .inr (.inl (0, 24, fun _ => 0))] 298) _ _
  refine XGo.go 4 rfl ?_
  refine XGo.getB 0 rfl rfl h2 rfl (by decide) ?_
  refine XGo.alenB 6 rfl rfl h2 (by decide) ?_
  refine XGo.go 1 rfl ?_
  refine XGo.ifn (by decide) ?_
  refine XGo.go 1 rfl ?_
  refine XGo.getB 0 rfl rfl h2 rfl (by decide) ?_
  refine XGo.go 1 rfl ?_
  refine XGo.newB rfl ?_
  refine XGo.go 1 rfl ?_
  refine XGo.iniB (s1 := 3) _ rfl xm_X1_init rfl rfl rfl rfl (Nat.le_of_ble_eq_true rfl) h2 _ rfl xb_X1_init (fun h0 q0 => k_X1_init _ h0 q0) ?_
  show XGo _ _ (_, _, _, xblk h [.inl (5, [.int 0, .ref (h.1 + 1), .ref (h.1 + 2), .int 0, .ref (h.1 + 3), .ref (h.1 + 4), .ref (h.1 + 5), .int 0, .ref (h.1 + 6), .int 0, .ref (h.1 + 7), .int 0, .ref (h.1 + 8), .int 0, .ref (h.1 + 9)]), .inr (.inl (0, 8, fun _ => 0)), .inr (.inl (0, 8, fun _ => 0)), .inr (.inl (0, 6, fun _ => 0)), .inr (.inl (0, 6, fun _ => 0)), .inr (.inl (0, 6, fun _ => 0)), .inr (.inr (3, 6, (va_up (va_up (fun _ => none) 0 (some (h.1 + 10))) 1 (some (h.1 + 13))))), .inr (.inl (0, 80, fun _ => 0)), .inr (.inl (0, 41, fun _ => 0)), .inr (.inl (0, 20, fun _ => 0)), .inl (1, [.int 0, .ref (h.1 + 11), .ref (h.1 + 12)]), .inr (.inl (0, 24, fun _ => 0)), .inr (.inl (0, 24, fun _ => 0)), .inl (1, [.int 0, .ref (h.1 + 14), .ref (h.1 + 15)]), .inr (.inl (0, 24, fun _ => 0)), .inr (.inl (0, 24, fun _ => 0)), .inl (1, [.int 0, .ref (h.1 + 17), .ref (h.1 + 18)]), .inr (.inl (0, 24, fun _ => 0)), .inr (.inl (0, 24, fun _ => 0))] 349) _ _
  refine XGo.aastB 6 16 rfl rfl rfl h2 (by decide) (by decide) ?_
  show XGo _ _ (_, _, _, xblk h [.inl (5, [.int 0, .ref (h.1 + 1), .ref (h.1 + 2), .int 0, .ref (h.1 + 3), .ref (h.1 + 4), .ref (h.1 + 5), .int 0, .ref (h.1 + 6), .int 0, .ref (h.1 + 7), .int 0, .ref (h.1 + 8), .int 0, .ref (h.1 + 9)]), .inr (.inl (0, 8, fun _ => 0)), .inr (.inl (0, 8, fun _ => 0)), .inr (.inl (0, 6, fun _ => 0)), .inr (.inl (0, 6, fun _ => 0)), .inr (.inl (0, 6, fun _ => 0)), .inr (.inr (3, 6, (va_up (va_up (va_up (fun _ => none) 0 (some (h.1 + 10))) 1 (some (h.1 + 13))) 2 (some (h.1 + 16))))), .inr (.inl (0, 80, fun _ => 0)), .inr (.inl (0, 41, fun _ => 0)), .inr (.inl (0, 20, fun _ => 0)), .inl (1, [.int 0, .ref (h.1 + 11), .ref (h.1 + 12)]), .inr (.inl (0, 24, fun _ => 0)), .inr (.inl (0, 24, fun _ => 0)), .inl (1, [.int 0, .ref (h.1 + 14), .ref (h.1 + 15)]), .inr (.inl (0, 24, fun _ => 0)), .inr (.inl (0, 24, fun _ => 0)), .inl (1, [.int 0, .ref (h.1 + 17), .ref (h.1 + 18)]), .inr (.inl (0, 24, fun _ => 0)), .inr (.inl (0, 24, fun _ => 0))] 349) _ _
  refine XGo.go 4 rfl ?_
  refine XGo.getB 0 rfl rfl h2 rfl (by decide) ?_
  refine XGo.alenB 6 rfl rfl h2 (by decide) ?_
  refine XGo.go 1 rfl ?_
  refine XGo.ifn (by decide) ?_
  refine XGo.go 1 rfl ?_
  refine XGo.getB 0 rfl rfl h2 rfl (by decide) ?_
  refine XGo.go 1 rfl ?_
  refine XGo.newB rfl ?_
  refine XGo.go 1 rfl ?_
  refine XGo.iniB (s1 := 3) _ rfl xm_X1_init rfl rfl rfl rfl (Nat.le_of_ble_eq_true rfl) h2 _ rfl xb_X1_init (fun h0 q0 => k_X1_init _ h0 q0) ?_
  show XGo _ _ (_, _, _, xblk h [.inl (5, [.int 0, .ref (h.1 + 1), .ref (h.1 + 2), .int 0, .ref (h.1 + 3), .ref (h.1 + 4), .ref (h.1 + 5), .int 0, .ref (h.1 + 6), .int 0, .ref (h.1 + 7), .int 0, .ref (h.1 + 8), .int 0, .ref (h.1 + 9)]), .inr (.inl (0, 8, fun _ => 0)), .inr (.inl (0, 8, fun _ => 0)), .inr (.inl (0, 6, fun _ => 0)), .inr (.inl (0, 6, fun _ => 0)), .inr (.inl (0, 6, fun _ => 0)), .inr (.inr (3, 6, (va_up (va_up (va_up (fun _ => none) 0 (some (h.1 + 10))) 1 (some (h.1 + 13))) 2 (some (h.1 + 16))))), .inr (.inl (0, 80, fun _ => 0)), .inr (.inl (0, 41, fun _ => 0)), .inr (.inl (0, 20, fun _ => 0)), .inl (1, [.int 0, .ref (h.1 + 11), .ref (h.1 + 12)]), .inr (.inl (0, 24, fun _ => 0)), .inr (.inl (0, 24, fun _ => 0)), .inl (1, [.int 0, .ref (h.1 + 14), .ref (h.1 + 15)]), .inr (.inl (0, 24, fun _ => 0)), .inr (.inl (0, 24, fun _ => 0)), .inl (1, [.int 0, .ref (h.1 + 17), .ref (h.1 + 18)]), .inr (.inl (0, 24, fun _ => 0)), .inr (.inl (0, 24, fun _ => 0)), .inl (1, [.int 0, .ref (h.1 + 20), .ref (h.1 + 21)]), .inr (.inl (0, 24, fun _ => 0)), .inr (.inl (0, 24, fun _ => 0))] 400) _ _
  refine XGo.aastB 6 19 rfl rfl rfl h2 (by decide) (by decide) ?_
  show XGo _ _ (_, _, _, xblk h [.inl (5, [.int 0, .ref (h.1 + 1), .ref (h.1 + 2), .int 0, .ref (h.1 + 3), .ref (h.1 + 4), .ref (h.1 + 5), .int 0, .ref (h.1 + 6), .int 0, .ref (h.1 + 7), .int 0, .ref (h.1 + 8), .int 0, .ref (h.1 + 9)]), .inr (.inl (0, 8, fun _ => 0)), .inr (.inl (0, 8, fun _ => 0)), .inr (.inl (0, 6, fun _ => 0)), .inr (.inl (0, 6, fun _ => 0)), .inr (.inl (0, 6, fun _ => 0)), .inr (.inr (3, 6, (va_up (va_up (va_up (va_up (fun _ => none) 0 (some (h.1 + 10))) 1 (some (h.1 + 13))) 2 (some (h.1 + 16))) 3 (some (h.1 + 19))))), .inr (.inl (0, 80, fun _ => 0)), .inr (.inl (0, 41, fun _ => 0)), .inr (.inl (0, 20, fun _ => 0)), .inl (1, [.int 0, .ref (h.1 + 11), .ref (h.1 + 12)]), .inr (.inl (0, 24, fun _ => 0)), .inr (.inl (0, 24, fun _ => 0)), .inl (1, [.int 0, .ref (h.1 + 14), .ref (h.1 + 15)]), .inr (.inl (0, 24, fun _ => 0)), .inr (.inl (0, 24, fun _ => 0)), .inl (1, [.int 0, .ref (h.1 + 17), .ref (h.1 + 18)]), .inr (.inl (0, 24, fun _ => 0)), .inr (.inl (0, 24, fun _ => 0)), .inl (1, [.int 0, .ref (h.1 + 20), .ref (h.1 + 21)]), .inr (.inl (0, 24, fun _ => 0)), .inr (.inl (0, 24, fun _ => 0))] 400) _ _
  refine XGo.go 4 rfl ?_
  refine XGo.getB 0 rfl rfl h2 rfl (by decide) ?_
  refine XGo.alenB 6 rfl rfl h2 (by decide) ?_
  refine XGo.go 1 rfl ?_
  refine XGo.ifn (by decide) ?_
  refine XGo.go 1 rfl ?_
  refine XGo.getB 0 rfl rfl h2 rfl (by decide) ?_
  refine XGo.go 1 rfl ?_
  refine XGo.newB rfl ?_
  refine XGo.go 1 rfl ?_
  refine XGo.iniB (s1 := 3) _ rfl xm_X1_init rfl rfl rfl rfl (Nat.le_of_ble_eq_true rfl) h2 _ rfl xb_X1_init (fun h0 q0 => k_X1_init _ h0 q0) ?_
  show XGo _ _ (_, _, _, xblk h [.inl (5, [.int 0, .ref (h.1 + 1), .ref (h.1 + 2), .int 0, .ref (h.1 + 3), .ref (h.1 + 4), .ref (h.1 + 5), .int 0, .ref (h.1 + 6), .int 0, .ref (h.1 + 7), .int 0, .ref (h.1 + 8), .int 0, .ref (h.1 + 9)]), .inr (.inl (0, 8, fun _ => 0)), .inr (.inl (0, 8, fun _ => 0)), .inr (.inl (0, 6, fun _ => 0)), .inr (.inl (0, 6, fun _ => 0)), .inr (.inl (0, 6, fun _ => 0)), .inr (.inr (3, 6, (va_up (va_up (va_up (va_up (fun _ => none) 0 (some (h.1 + 10))) 1 (some (h.1 + 13))) 2 (some (h.1 + 16))) 3 (some (h.1 + 19))))), .inr (.inl (0, 80, fun _ => 0)), .inr (.inl (0, 41, fun _ => 0)), .inr (.inl (0, 20, fun _ => 0)), .inl (1, [.int 0, .ref (h.1 + 11), .ref (h.1 + 12)]), .inr (.inl (0, 24, fun _ => 0)), .inr (.inl (0, 24, fun _ => 0)), .inl (1, [.int 0, .ref (h.1 + 14), .ref (h.1 + 15)]), .inr (.inl (0, 24, fun _ => 0)), .inr (.inl (0, 24, fun _ => 0)), .inl (1, [.int 0, .ref (h.1 + 17), .ref (h.1 + 18)]), .inr (.inl (0, 24, fun _ => 0)), .inr (.inl (0, 24, fun _ => 0)), .inl (1, [.int 0, .ref (h.1 + 20), .ref (h.1 + 21)]), .inr (.inl (0, 24, fun _ => 0)), .inr (.inl (0, 24, fun _ => 0)), .inl (1, [.int 0, .ref (h.1 + 23), .ref (h.1 + 24)]), .inr (.inl (0, 24, fun _ => 0)), .inr (.inl (0, 24, fun _ => 0))] 451) _ _
  refine XGo.aastB 6 22 rfl rfl rfl h2 (by decide) (by decide) ?_
  show XGo _ _ (_, _, _, xblk h [.inl (5, [.int 0, .ref (h.1 + 1), .ref (h.1 + 2), .int 0, .ref (h.1 + 3), .ref (h.1 + 4), .ref (h.1 + 5), .int 0, .ref (h.1 + 6), .int 0, .ref (h.1 + 7), .int 0, .ref (h.1 + 8), .int 0, .ref (h.1 + 9)]), .inr (.inl (0, 8, fun _ => 0)), .inr (.inl (0, 8, fun _ => 0)), .inr (.inl (0, 6, fun _ => 0)), .inr (.inl (0, 6, fun _ => 0)), .inr (.inl (0, 6, fun _ => 0)), .inr (.inr (3, 6, (va_up (va_up (va_up (va_up (va_up (fun _ => none) 0 (some (h.1 + 10))) 1 (some (h.1 + 13))) 2 (some (h.1 + 16))) 3 (some (h.1 + 19))) 4 (some (h.1 + 22))))), .inr (.inl (0, 80, fun _ => 0)), .inr (.inl (0, 41, fun _ => 0)), .inr (.inl (0, 20, fun _ => 0)), .inl (1, [.int 0, .ref (h.1 + 11), .ref (h.1 + 12)]), .inr (.inl (0, 24, fun _ => 0)), .inr (.inl (0, 24, fun _ => 0)), .inl (1, [.int 0, .ref (h.1 + 14), .ref (h.1 + 15)]), .inr (.inl (0, 24, fun _ => 0)), .inr (.inl (0, 24, fun _ => 0)), .inl (1, [.int 0, .ref (h.1 + 17), .ref (h.1 + 18)]), .inr (.inl (0, 24, fun _ => 0)), .inr (.inl (0, 24, fun _ => 0)), .inl (1, [.int 0, .ref (h.1 + 20), .ref (h.1 + 21)]), .inr (.inl (0, 24, fun _ => 0)), .inr (.inl (0, 24, fun _ => 0)), .inl (1, [.int 0, .ref (h.1 + 23), .ref (h.1 + 24)]), .inr (.inl (0, 24, fun _ => 0)), .inr (.inl (0, 24, fun _ => 0))] 451) _ _
  refine XGo.go 4 rfl ?_
  refine XGo.getB 0 rfl rfl h2 rfl (by decide) ?_
  refine XGo.alenB 6 rfl rfl h2 (by decide) ?_
  refine XGo.go 1 rfl ?_
  refine XGo.ifn (by decide) ?_
  refine XGo.go 1 rfl ?_
  refine XGo.getB 0 rfl rfl h2 rfl (by decide) ?_
  refine XGo.go 1 rfl ?_
  refine XGo.newB rfl ?_
  refine XGo.go 1 rfl ?_
  refine XGo.iniB (s1 := 3) _ rfl xm_X1_init rfl rfl rfl rfl (Nat.le_of_ble_eq_true rfl) h2 _ rfl xb_X1_init (fun h0 q0 => k_X1_init _ h0 q0) ?_
  show XGo _ _ (_, _, _, xblk h [.inl (5, [.int 0, .ref (h.1 + 1), .ref (h.1 + 2), .int 0, .ref (h.1 + 3), .ref (h.1 + 4), .ref (h.1 + 5), .int 0, .ref (h.1 + 6), .int 0, .ref (h.1 + 7), .int 0, .ref (h.1 + 8), .int 0, .ref (h.1 + 9)]), .inr (.inl (0, 8, fun _ => 0)), .inr (.inl (0, 8, fun _ => 0)), .inr (.inl (0, 6, fun _ => 0)), .inr (.inl (0, 6, fun _ => 0)), .inr (.inl (0, 6, fun _ => 0)), .inr (.inr (3, 6, (va_up (va_up (va_up (va_up (va_up (fun _ => none) 0 (some (h.1 + 10))) 1 (some (h.1 + 13))) 2 (some (h.1 + 16))) 3 (some (h.1 + 19))) 4 (some (h.1 + 22))))), .inr (.inl (0, 80, fun _ => 0)), .inr (.inl (0, 41, fun _ => 0)), .inr (.inl (0, 20, fun _ => 0)), .inl (1, [.int 0, .ref (h.1 + 11), .ref (h.1 + 12)]), .inr (.inl (0, 24, fun _ => 0)), .inr (.inl (0, 24, fun _ => 0)), .inl (1, [.int 0, .ref (h.1 + 14), .ref (h.1 + 15)]), .inr (.inl (0, 24, fun _ => 0)), .inr (.inl (0, 24, fun _ => 0)), .inl (1, [.int 0, .ref (h.1 + 17), .ref (h.1 + 18)]), .inr (.inl (0, 24, fun _ => 0)), .inr (.inl (0, 24, fun _ => 0)), .inl (1, [.int 0, .ref (h.1 + 20), .ref (h.1 + 21)]), .inr (.inl (0, 24, fun _ => 0)), .inr (.inl (0, 24, fun _ => 0)), .inl (1, [.int 0, .ref (h.1 + 23), .ref (h.1 + 24)]), .inr (.inl (0, 24, fun _ => 0)), .inr (.inl (0, 24, fun _ => 0)), .inl (1, [.int 0, .ref (h.1 + 26), .ref (h.1 + 27)]), .inr (.inl (0, 24, fun _ => 0)), .inr (.inl (0, 24, fun _ => 0))] 502) _ _
  refine XGo.aastB 6 25 rfl rfl rfl h2 (by decide) (by decide) ?_
  show XGo _ _ (_, _, _, xblk h [.inl (5, [.int 0, .ref (h.1 + 1), .ref (h.1 + 2), .int 0, .ref (h.1 + 3), .ref (h.1 + 4), .ref (h.1 + 5), .int 0, .ref (h.1 + 6), .int 0, .ref (h.1 + 7), .int 0, .ref (h.1 + 8), .int 0, .ref (h.1 + 9)]), .inr (.inl (0, 8, fun _ => 0)), .inr (.inl (0, 8, fun _ => 0)), .inr (.inl (0, 6, fun _ => 0)), .inr (.inl (0, 6, fun _ => 0)), .inr (.inl (0, 6, fun _ => 0)), .inr (.inr (3, 6, (va_up (va_up (va_up (va_up (va_up (va_up (fun _ => none) 0 (some (h.1 + 10))) 1 (some (h.1 + 13))) 2 (some (h.1 + 16))) 3 (some (h.1 + 19))) 4 (some (h.1 + 22))) 5 (some (h.1 + 25))))), .inr (.inl (0, 80, fun _ => 0)), .inr (.inl (0, 41, fun _ => 0)), .inr (.inl (0, 20, fun _ => 0)), .inl (1, [.int 0, .ref (h.1 + 11), .ref (h.1 + 12)]), .inr (.inl (0, 24, fun _ => 0)), .inr (.inl (0, 24, fun _ => 0)), .inl (1, [.int 0, .ref (h.1 + 14), .ref (h.1 + 15)]), .inr (.inl (0, 24, fun _ => 0)), .inr (.inl (0, 24, fun _ => 0)), .inl (1, [.int 0, .ref (h.1 + 17), .ref (h.1 + 18)]), .inr (.inl (0, 24, fun _ => 0)), .inr (.inl (0, 24, fun _ => 0)), .inl (1, [.int 0, .ref (h.1 + 20), .ref (h.1 + 21)]), .inr (.inl (0, 24, fun _ => 0)), .inr (.inl (0, 24, fun _ => 0)), .inl (1, [.int 0, .ref (h.1 + 23), .ref (h.1 + 24)]), .inr (.inl (0, 24, fun _ => 0)), .inr (.inl (0, 24, fun _ => 0)), .inl (1, [.int 0, .ref (h.1 + 26), .ref (h.1 + 27)]), .inr (.inl (0, 24, fun _ => 0)), .inr (.inl (0, 24, fun _ => 0))] 502) _ _
  refine XGo.go 4 rfl ?_
  refine XGo.getB 0 rfl rfl h2 rfl (by decide) ?_
  refine XGo.alenB 6 rfl rfl h2 (by decide) ?_
  refine XGo.go 1 rfl ?_
  refine XGo.ifp (by decide) ?_
  exact XGo.vret _ rfl rfl rfl
def xb_X7_init (q : Nat) : List XE := [.inl (7, [.int 0, .ref (q + 1), .ref (q + 2), .int 0, .ref (q + 3), .ref (q + 4), .ref (q + 5), .ref (q + 6), .int 0, .int 0, .int 0, .ref (q + 7), .ref (q + 8), .ref (q + 9), .int 0, .int 0, .int 0, .int 0, .ref (q + 10), .ref (q + 11), .ref (q + 12), .int 0, .int 0, .int 0, .int 0]), .inr (.inl (0, 490, fun _ => 0)), .inr (.inl (0, 490, fun _ => 0)), .inr (.inl (0, 14, fun _ => 0)), .inr (.inl (0, 14, fun _ => 0)), .inr (.inl (0, 14, fun _ => 0)), .inr (.inl (0, 4, fun _ => 0)), .inr (.inl (0, 41, fun _ => 0)), .inr (.inl (0, 41, fun _ => 0)), .inr (.inl (0, 6, fun _ => 0)), .inr (.inl (1, 64, fun _ => 0)), .inr (.inl (0, 41, fun _ => 0)), .inr (.inl (0, 20, fun _ => 0))]
theorem k_X7_init (d : Nat) (h : XH) (h2 : 13 ≤ h.1) : XCall xM (d + 1) 106 [.ref h.1] (xblk h [.inl (7, xdef 7)] 25) none (xblk h (xb_X7_init h.1) 1264) := by
  refine XCall.of (M := xm_X7_init) rfl (Nat.le_of_ble_eq_true rfl) ?_
  refine XGo.go 4 rfl ?_
  refine XGo.naB rfl ⟨by decide, by decide⟩ 490 (by decide) ?_
  refine XGo.putB 0 rfl rfl h2 (Nat.le_of_ble_eq_true rfl) rfl rfl ?_
  show XGo _ _ (_, _, _, xblk h [.inl (7, [.int 0, .ref (h.1 + 1), .null, .int 0, .null, .null, .null, .null, .int 0, .int 0, .int 0, .null, .null, .null, .int 0, .int 0, .int 0, .int 0, .null, .null, .null, .int 0, .int 0, .int 0, .int 0]), .inr (.inl (0, 490, fun _ => 0))] 515) _ _
  refine XGo.go 2 rfl ?_
  refine XGo.naB rfl ⟨by decide, by decide⟩ 490 (by decide) ?_
  refine XGo.putB 0 rfl rfl h2 (Nat.le_of_ble_eq_true rfl) rfl rfl ?_
  show XGo _ _ (_, _, _, xblk h [.inl (7, [.int 0, .ref (h.1 + 1), .ref (h.1 + 2), .int 0, .null, .null, .null, .null, .int 0, .int 0, .int 0, .null, .null, .null, .int 0, .int 0, .int 0, .int 0, .null, .null, .null, .int 0, .int 0, .int 0, .int 0]), .inr (.inl (0, 490, fun _ => 0)), .inr (.inl (0, 490, fun _ => 0))] 1005) _ _
  refine XGo.go 2 rfl ?_
  refine XGo.naB rfl ⟨by decide, by decide⟩ 14 (by decide) ?_
  refine XGo.putB 0 rfl rfl h2 (Nat.le_of_ble_eq_true rfl) rfl rfl ?_
  show XGo _ _ (_, _, _, xblk h [.inl (7, [.int 0, .ref (h.1 + 1), .ref (h.1 + 2), .int 0, .ref (h.1 + 3), .null, .null, .null, .int 0, .int 0, .int 0, .null, .null, .null, .int 0, .int 0, .int 0, .int 0, .null, .null, .null, .int 0, .int 0, .int 0, .int 0]), .inr (.inl (0, 490, fun _ => 0)), .inr (.inl (0, 490, fun _ => 0)), .inr (.inl (0, 14, fun _ => 0))] 1019) _ _
  refine XGo.go 2 rfl ?_
  refine XGo.naB rfl ⟨by decide, by decide⟩ 14 (by decide) ?_
  refine XGo.putB 0 rfl rfl h2 (Nat.le_of_ble_eq_true rfl) rfl rfl ?_
  show XGo _ _ (_, _, _, xblk h [.inl (7, [.int 0, .ref (h.1 + 1), .ref (h.1 + 2), .int 0, .ref (h.1 + 3), .ref (h.1 + 4), .null, .null, .int 0, .int 0, .int 0, .null, .null, .null, .int 0, .int 0, .int 0, .int 0, .null, .null, .null, .int 0, .int 0, .int 0, .int 0]), .inr (.inl (0, 490, fun _ => 0)), .inr (.inl (0, 490, fun _ => 0)), .inr (.inl (0, 14, fun _ => 0)), .inr (.inl (0, 14, fun _ => 0))] 1033) _ _
  refine XGo.go 2 rfl ?_
  refine XGo.naB rfl ⟨by decide, by decide⟩ 14 (by decide) ?_
  refine XGo.putB 0 rfl rfl h2 (Nat.le_of_ble_eq_true rfl) rfl rfl ?_
  show XGo _ _ (_, _, _, xblk h [.inl (7, [.int 0, .ref (h.1 + 1), .ref (h.1 + 2), .int 0, .ref (h.1 + 3), .ref (h.1 + 4), .ref (h.1 + 5), .null, .int 0, .int 0, .int 0, .null, .null, .null, .int 0, .int 0, .int 0, .int 0, .null, .null, .null, .int 0, .int 0, .int 0, .int 0]), .inr (.inl (0, 490, fun _ => 0)), .inr (.inl (0, 490, fun _ => 0)), .inr (.inl (0, 14, fun _ => 0)), .inr (.inl (0, 14, fun _ => 0)), .inr (.inl (0, 14, fun _ => 0))] 1047) _ _
  refine XGo.go 2 rfl ?_
  refine XGo.naB rfl ⟨by decide, by decide⟩ 4 (by decide) ?_
  refine XGo.putB 0 rfl rfl h2 (Nat.le_of_ble_eq_true rfl) rfl rfl ?_
  show XGo _ _ (_, _, _, xblk h [.inl (7, [.int 0, .ref (h.1 + 1), .ref (h.1 + 2), .int 0, .ref (h.1 + 3), .ref (h.1 + 4), .ref (h.1 + 5), .ref (h.1 + 6), .int 0, .int 0, .int 0, .null, .null, .null, .int 0, .int 0, .int 0, .int 0, .null, .null, .null, .int 0, .int 0, .int 0, .int 0]), .inr (.inl (0, 490, fun _ => 0)), .inr (.inl (0, 490, fun _ => 0)), .inr (.inl (0, 14, fun _ => 0)), .inr (.inl (0, 14, fun _ => 0)), .inr (.inl (0, 14, fun _ => 0)), .inr (.inl (0, 4, fun _ => 0))] 1051) _ _
  refine XGo.go 2 rfl ?_
  refine XGo.naB rfl ⟨by decide, by decide⟩ 41 (by decide) ?_
  refine XGo.putB 0 rfl rfl h2 (Nat.le_of_ble_eq_true rfl) rfl rfl ?_
  show XGo _ _ (_, _, _, xblk h [.inl (7, [.int 0, .ref (h.1 + 1), .ref (h.1 + 2), .int 0, .ref (h.1 + 3), .ref (h.1 + 4), .ref (h.1 + 5), .ref (h.1 + 6), .int 0, .int 0, .int 0, .ref (h.1 + 7), .null, .null, .int 0, .int 0, .int 0, .int 0, .null, .null, .null, .int 0, .int 0, .int 0, .int 0]), .inr (.inl (0, 490, fun _ => 0)), .inr (.inl (0, 490, fun _ => 0)), .inr (.inl (0, 14, fun _ => 0)), .inr (.inl (0, 14, fun _ => 0)), .inr (.inl (0, 14, fun _ => 0)), .inr (.inl (0, 4, fun _ => 0)), .inr (.inl (0, 41, fun _ => 0))] 1092) _ _
  refine XGo.go 2 rfl ?_
  refine XGo.naB rfl ⟨by decide, by decide⟩ 41 (by decide) ?_
  refine XGo.putB 0 rfl rfl h2 (Nat.le_of_ble_eq_true rfl) rfl rfl ?_
  show XGo _ _ (_, _, _, xblk h [.inl (7, [.int 0, .ref (h.1 + 1), .ref (h.1 + 2), .int 0, .ref (h.1 + 3), .ref (h.1 + 4), .ref (h.1 + 5), .ref (h.1 + 6), .int 0, .int 0, .int 0, .ref (h.1 + 7), .ref (h.1 + 8), .null, .int 0, .int 0, .int 0, .int 0, .null, .null, .null, .int 0, .int 0, .int 0, .int 0]), .inr (.inl (0, 490, fun _ => 0)), .inr (.inl (0, 490, fun _ => 0)), .inr (.inl (0, 14, fun _ => 0)), .inr (.inl (0, 14, fun _ => 0)), .inr (.inl (0, 14, fun _ => 0)), .inr (.inl (0, 4, fun _ => 0)), .inr (.inl (0, 41, fun _ => 0)), .inr (.inl (0, 41, fun _ => 0))] 1133) _ _
  refine XGo.go 2 rfl ?_
  refine XGo.naB rfl ⟨by decide, by decide⟩ 6 (by decide) ?_
  refine XGo.putB 0 rfl rfl h2 (Nat.le_of_ble_eq_true rfl) rfl rfl ?_
  show XGo _ _ (_, _, _, xblk h [.inl (7, [.int 0, .ref (h.1 + 1), .ref (h.1 + 2), .int 0, .ref (h.1 + 3), .ref (h.1 + 4), .ref (h.1 + 5), .ref (h.1 + 6), .int 0, .int 0, .int 0, .ref (h.1 + 7), .ref (h.1 + 8), .ref (h.1 + 9), .int 0, .int 0, .int 0, .int 0, .null, .null, .null, .int 0, .int 0, .int 0, .int 0]), .inr (.inl (0, 490, fun _ => 0)), .inr (.inl (0, 490, fun _ => 0)), .inr (.inl (0, 14, fun _ => 0)), .inr (.inl (0, 14, fun _ => 0)), .inr (.inl (0, 14, fun _ => 0)), .inr (.inl (0, 4, fun _ => 0)), .inr (.inl (0, 41, fun _ => 0)), .inr (.inl (0, 41, fun _ => 0)), .inr (.inl (0, 6, fun _ => 0))] 1139) _ _
  refine XGo.go 2 rfl ?_
  refine XGo.naB rfl ⟨by decide, by decide⟩ 64 (by decide) ?_
  refine XGo.putB 0 rfl rfl h2 (Nat.le_of_ble_eq_true rfl) rfl rfl ?_
  show XGo _ _ (_, _, _, xblk h [.inl (7, [.int 0, .ref (h.1 + 1), .ref (h.1 + 2), .int 0, .ref (h.1 + 3), .ref (h.1 + 4), .ref (h.1 + 5), .ref (h.1 + 6), .int 0, .int 0, .int 0, .ref (h.1 + 7), .ref (h.1 + 8), .ref (h.1 + 9), .int 0, .int 0, .int 0, .int 0, .ref (h.1 + 10), .null, .null, .int 0, .int 0, .int 0, .int 0]), .inr (.inl (0, 490, fun _ => 0)), .inr (.inl (0, 490, fun _ => 0)), .inr (.inl (0, 14, fun _ => 0)), .inr (.inl (0, 14, fun _ => 0)), .inr (.inl (0, 14, fun _ => 0)), .inr (.inl (0, 4, fun _ => 0)), .inr (.inl (0, 41, fun _ => 0)), .inr (.inl (0, 41, fun _ => 0)), .inr (.inl (0, 6, fun _ => 0)), .inr (.inl (1, 64, fun _ => 0))] 1203) _ _
  refine XGo.go 2 rfl ?_
  refine XGo.naB rfl ⟨by decide, by decide⟩ 41 (by decide) ?_
  refine XGo.putB 0 rfl rfl h2 (Nat.le_of_ble_eq_true rfl) rfl rfl ?_
  show XGo _ _ (_, _, _, xblk h [.inl (7, [.int 0, .ref (h.1 + 1), .ref (h.1 + 2), .int 0, .ref (h.1 + 3), .ref (h.1 + 4), .ref (h.1 + 5), .ref (h.1 + 6), .int 0, .int 0, .int 0, .ref (h.1 + 7), .ref (h.1 + 8), .ref (h.1 + 9), .int 0, .int 0, .int 0, .int 0, .ref (h.1 + 10), .ref (h.1 + 11), .null, .int 0, .int 0, .int 0, .int 0]), .inr (.inl (0, 490, fun _ => 0)), .inr (.inl (0, 490, fun _ => 0)), .inr (.inl (0, 14, fun _ => 0)), .inr (.inl (0, 14, fun _ => 0)), .inr (.inl (0, 14, fun _ => 0)), .inr (.inl (0, 4, fun _ => 0)), .inr (.inl (0, 41, fun _ => 0)), .inr (.inl (0, 41, fun _ => 0)), .inr (.inl (0, 6, fun _ => 0)), .inr (.inl (1, 64, fun _ => 0)), .inr (.inl (0, 41, fun _ => 0))] 1244) _ _
  refine XGo.go 2 rfl ?_
  refine XGo.naB rfl ⟨by decide, by decide⟩ 20 (by decide) ?_
  refine XGo.putB 0 rfl rfl h2 (Nat.le_of_ble_eq_true rfl) rfl rfl ?_
  show XGo _ _ (_, _, _, xblk h [.inl (7, [.int 0, .ref (h.1 + 1), .ref (h.1 + 2), .int 0, .ref (h.1 + 3), .ref (h.1 + 4), .ref (h.1 + 5), .ref (h.1 + 6), .int 0, .int 0, .int 0, .ref (h.1 + 7), .ref (h.1 + 8), .ref (h.1 + 9), .int 0, .int 0, .int 0, .int 0, .ref (h.1 + 10), .ref (h.1 + 11), .ref (h.1 + 12), .int 0, .int 0, .int 0, .int 0]), .inr (.inl (0, 490, fun _ => 0)), .inr (.inl (0, 490, fun _ => 0)), .inr (.inl (0, 14, fun _ => 0)), .inr (.inl (0, 14, fun _ => 0)), .inr (.inl (0, 14, fun _ => 0)), .inr (.inl (0, 4, fun _ => 0)), .inr (.inl (0, 41, fun _ => 0)), .inr (.inl (0, 41, fun _ => 0)), .inr (.inl (0, 6, fun _ => 0)), .inr (.inl (1, 64, fun _ => 0)), .inr (.inl (0, 41, fun _ => 0)), .inr (.inl (0, 20, fun _ => 0))] 1264) _ _
  exact XGo.vret _ rfl rfl rfl
