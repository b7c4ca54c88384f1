set_option maxRecDepth 100000 in
/-- the switch over the script's first int -/
theorem law_sw (f0 xs : Nat → Int32) (x : Int32) : XGp 11 xm_L (32, [some (.ref 1), some (.ref 2), some (.ref 525), some (.int (Int32.ofInt 0))], [.int x], xh0 (xg f0 xs 5)) (some (.int 1)) xPL := by
  by_cases hx : x.toInt < 0 ∨ 26 < x.toInt
  · refine XGp.swo 1177 rfl hx (by decide) rfl ?_
    exact law_tail 11 xs _ rfl (Nat.le_of_ble_eq_true rfl) ⟨rfl, rfl⟩
  · obtain ⟨n, hn, rfl⟩ : ∃ n : Nat, n < 27 ∧ x = Int32.ofNat n := ⟨x.toInt.toNat, by omega, Int32.toInt_inj.mp (by rw [show (Int32.ofNat x.toInt.toNat).toInt = _ from nI_toInt (by omega)]; omega)⟩
    match n, hn with
    | 0, _ => exact law_case0 f0 xs
    | 1, _ => exact law_case1 f0 xs
    | 2, _ => exact law_case2 f0 xs
    | 3, _ => exact law_case3 f0 xs
    | 4, _ => exact law_case4 f0 xs
    | 5, _ => exact law_case5 f0 xs
    | 6, _ => exact law_case6 f0 xs
    | 7, _ => exact law_case7 f0 xs
    | 8, _ => exact law_case8 f0 xs
    | 9, _ => exact law_case9 f0 xs
    | 10, _ => exact law_case10 f0 xs
    | 11, _ => exact law_case11 f0 xs
    | 12, _ => exact law_case12 f0 xs
    | 13, _ => exact law_case13 f0 xs
    | 14, _ => exact law_case14 f0 xs
    | 15, _ => exact law_case15 f0 xs
    | 16, _ => exact law_case16 f0 xs
    | 17, _ => exact law_case17 f0 xs
    | 18, _ => exact law_case18 f0 xs
    | 19, _ => exact law_case19 f0 xs
    | 20, _ => exact law_case20 f0 xs
    | 21, _ => exact law_case21 f0 xs
    | 22, _ => exact law_case22 f0 xs
    | 23, _ => exact law_case23 f0 xs
    | 24, _ => exact law_case24 f0 xs
    | 25, _ => exact law_case25 f0 xs
    | 26, _ => exact law_case26 f0 xs
    | n + 27, h => exact absurd h (by omega)
set_option maxRecDepth 100000 in
/-- the loop's head, with the two objects made -/
theorem law_head (f0 xs : Nat → Int32) {L : Nat} (hL : L ≤ 5) : XGp 11 xm_L (18, [some (.ref 1), some (.ref 2), some (.ref 525), some (.int (Int32.ofInt 0))], [], xh0 (xg f0 xs L)) (some (.int 1)) xPL := by
  refine XGp.go 2 rfl ?_
  refine XGp.alen (n := L) rfl (xlen_i (t := 0) (f := xs) rfl (Nat.le_of_ble_eq_true rfl) (by decide)) ?_
  refine XGp.go 3 rfl ?_
  have hs : L < 5 ∨ L = 5 := by omega
  rcases hs with hs | rfl
  · refine XGp.ifp ?_ ?_
    · match L, hs with
      | 0, _ => decide
      | 1, _ => decide
      | 2, _ => decide
      | 3, _ => decide
      | 4, _ => decide
    · refine XGp.go 1 rfl ?_
      exact XGp.iret _ rfl rfl .boolean rfl rfl rfl ⟨rfl, rfl⟩
  · refine XGp.ifn (by decide) ?_
    refine XGp.go 2 rfl ?_
    refine XGp.iald rfl (xia_i (n := 5) (f := xs) rfl (Nat.le_of_ble_eq_true rfl) (by decide)) ?_
    refine XGp.go 2 rfl ?_
    exact law_sw f0 xs _
set_option maxRecDepth 100000 in
theorem law_mid {d : Nat} {v : Option Value} {P : XH → Prop} (B : XH) (hb : B.1 = 525) (k : XGp (d + 1) xm_L (18, [some (.ref 1), some (.ref 2), some (.ref 525), some (.int (Int32.ofInt 0))], [], xblk B (xb_X7_init 525) 1264) v P) : XGp (d + 1) xm_L (7, [some (.ref 1), none, none, none], [.ref 2], B) v P := by
  refine XGp.go 2 rfl ?_
  show XGp _ _ (11, _, [.ref B.1], xnew B 25 (.inl (7, xdef 7))) _ _
  rw [xblk_new0]
  refine XGp.go 1 rfl ?_
  refine XGp.callx [.ref B.1] [.ref B.1] _ rfl xm_X7_init rfl rfl rfl rfl (fun _ => ⟨B.1, xdef 7, rfl, ?_, by omega, ?_⟩) (Nat.le_of_ble_eq_true rfl) (k_X7_init d B (by omega)) ?_
  · exact xblk_at (A := [.inl (7, xdef 7)]) (i := 0) rfl
  · show B.1 < B.1 + 1
    omega
  rw [hb]
  exact XGp.go 3 rfl k
set_option maxRecDepth 100000 in
theorem law_all (f0 xs : Nat → Int32) {L : Nat} (hL : L ≤ 5) : XGp 11 xm_L (0, [some (.ref 1), none, none, none], [], (2, 0, xg f0 xs L)) (some (.int 1)) xPL := by
  refine XGp.go 1 rfl ?_
  show XGp _ _ (3, _, [.ref 2], xnew (2, 0, xg f0 xs L) 9 (.inl (6, xdef 6))) _ _
  rw [xblk_new0]
  refine XGp.go 1 rfl ?_
  refine XGp.callx [.ref 2] [.ref 2] _ rfl xm_X6_init rfl rfl rfl rfl (fun _ => ⟨2, xdef 6, rfl, rfl, Nat.le_of_ble_eq_true rfl, Nat.le_of_ble_eq_true rfl⟩) (Nat.le_of_ble_eq_true rfl) (k_X6_init 8 (2, 0, xg f0 xs L) (Nat.le_of_ble_eq_true rfl)) ?_
  refine law_mid _ ?_ ?_
  · show 2 + (xlg 2 64 ++ xcr (2 + 75) 64).length = 525
    rw [List.length_append, xcr_len]
    rfl
  · have e := xh0_eq (xg f0 xs L)
    have e2 : xblk (xblk (2, 0, xg f0 xs L) (xlg 2 64 ++ xcr (2 + 75) 64) (1456 + 177 * 64)) (xb_X7_init 525) 1264 = xh0 (xg f0 xs L) := e
    show XGp _ _ (_, _, _, xblk (xblk (2, 0, xg f0 xs L) (xlg 2 64 ++ xcr (2 + 75) 64) (1456 + 177 * 64)) (xb_X7_init 525) 1264) _ _
    rw [e2]
    exact law_head f0 xs hL
