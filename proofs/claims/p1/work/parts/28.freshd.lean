def ac_person (a b : Int32) : Int32 := (if b = Int32.ofInt (-1) then (if a < 0 then (-2) else (if a ≤ (Int8.ofInt (90)).toInt32 then (0) else (-2))) else (-1))
theorem f_c_person (d : Nat) (g : Nat → XE) (a b : Int32) : XCp (d + 3) 62 [.ref 2, .int a, .int b] (xh0 g) (some (.int (ac_person a b))) (xP g) := by
  refine XCp.of (M := xm_X6_person) rfl (Nat.le_of_ble_eq_true rfl) ?_
  refine XGp.go 3 rfl ?_
  refine XGp.spl (fun hb0 => ?_) (fun hb0 => ?_)
  · refine XGp.go 2 rfl ?_
    refine XGp.spl (fun hb1 => ?_) (fun hb1 => ?_)
    · refine XGp.go 1 rfl ?_
      exact XGp.iret _ rfl rfl .int rfl rfl ((if_pos hb0).trans ((if_pos hb1).trans (rfl))) (by repeat (first | exact xP_0 _ | refine xP_up (Nat.le_of_ble_eq_true rfl) ?_))
    · refine XGp.go 3 rfl ?_
      refine XGp.spl (fun hb2 => ?_) (fun hb2 => ?_)
      · refine XGp.go 3 rfl ?_
        refine XGp.ifp hb0 ?_
        refine XGp.go 5 rfl ?_
        refine XGp.ifp (by decide) ?_
        refine XGp.go 7 rfl ?_
        refine XGp.callx [.ref 4, .int _, .int _] _ _ rfl xm_X6_put rfl rfl rfl rfl (fun q => absurd rfl q) (Nat.le_of_ble_eq_true rfl) (k_put_in _ _ _ _ _ _ _ rfl (Nat.le_of_ble_eq_true rfl) (Nat.le_of_ble_eq_true rfl) (by decide) (by decide)) ?_
        refine XGp.go 7 rfl ?_
        refine XGp.callx [.ref 5, .int _, .int _] _ _ rfl xm_X6_put rfl rfl rfl rfl (fun q => absurd rfl q) (Nat.le_of_ble_eq_true rfl) (k_put_in _ _ _ _ _ _ _ rfl (Nat.le_of_ble_eq_true rfl) (Nat.le_of_ble_eq_true rfl) (by decide) (by decide)) ?_
        refine XGp.go 6 rfl ?_
        refine XGp.putf rfl rfl (Nat.le_of_ble_eq_true rfl) (Nat.le_of_ble_eq_true rfl) (Nat.le_of_ble_eq_true rfl) rfl rfl ?_
        refine XGp.go 1 rfl ?_
        refine XGp.callx [.ref 2] _ _ rfl xm_X6_forgetCourses rfl rfl rfl rfl (fun _ => ⟨2, _, rfl, rfl, Nat.le_of_ble_eq_true rfl, Nat.le_of_ble_eq_true rfl⟩) (Nat.le_of_ble_eq_true rfl) (f_forget _ _ (by repeat (first | exact xfg_0 _ | refine xfg_up (Nat.le_of_ble_eq_true rfl) (Nat.le_of_ble_eq_true rfl) ?_))) ?_
        refine XGp.go 5 rfl ?_
        exact XGp.iret _ rfl rfl .int rfl rfl ((if_pos hb0).trans ((if_neg hb1).trans ((if_pos hb2).trans (rfl)))) (by repeat (first | exact xP_0 _ | refine xP_up (Nat.le_of_ble_eq_true rfl) ?_))
      · refine XGp.go 1 rfl ?_
        exact XGp.iret _ rfl rfl .int rfl rfl ((if_pos hb0).trans ((if_neg hb1).trans ((if_neg hb2).trans (rfl)))) (by repeat (first | exact xP_0 _ | refine xP_up (Nat.le_of_ble_eq_true rfl) ?_))
  · refine XGp.go 3 rfl ?_
    refine XGp.callx [.ref 3, .int _] _ _ rfl xm_X5_isPerson rfl rfl rfl rfl (fun _ => ⟨3, _, rfl, rfl, Nat.le_of_ble_eq_true rfl, Nat.le_of_ble_eq_true rfl⟩) (Nat.le_of_ble_eq_true rfl) (f_isPerson _ _ _ rfl rfl (Nat.le_of_ble_eq_true rfl) _) ?_
    refine XGp.go 1 rfl ?_
    refine XGp.ifp (by decide) ?_
    refine XGp.go 1 rfl ?_
    exact XGp.iret _ rfl rfl .int rfl rfl ((if_neg hb0).trans (rfl)) (by repeat (first | exact xP_0 _ | refine xP_up (Nat.le_of_ble_eq_true rfl) ?_))
def ac_maybe (a b c : Int32) : Int32 := (if a < 0 then (-1) else (if a ≤ Int32.ofInt (3) then (if a = Int32.ofInt (3) then (if b < 0 then (-1) else (if b < Int32.ofInt (4) then (if c < Int32.ofInt (1) then (-2) else (if c ≤ (Int8.ofInt (40)).toInt32 then (0) else (-2))) else (-1))) else (-1)) else (-1)))
theorem f_c_maybe (d : Nat) (g : Nat → XE) (a b c : Int32) : XCp (d + 3) 63 [.ref 2, .int a, .int b, .int c] (xh0 g) (some (.int (ac_maybe a b c))) (xP g) := by
  refine XCp.of (M := xm_X6_maybe) rfl (Nat.le_of_ble_eq_true rfl) ?_
  refine XGp.go 2 rfl ?_
  refine XGp.spl (fun hb0 => ?_) (fun hb0 => ?_)
  · refine XGp.go 1 rfl ?_
    exact XGp.iret _ rfl rfl .int rfl rfl ((if_pos hb0).trans (rfl)) (by repeat (first | exact xP_0 _ | refine xP_up (Nat.le_of_ble_eq_true rfl) ?_))
  · refine XGp.go 3 rfl ?_
    refine XGp.spl (fun hb1 => ?_) (fun hb1 => ?_)
    · refine XGp.go 3 rfl ?_
      refine XGp.spl (fun hb2 => ?_) (fun hb2 => ?_)
      · refine XGp.go 2 rfl ?_
        refine XGp.spl (fun hb3 => ?_) (fun hb3 => ?_)
        · refine XGp.go 1 rfl ?_
          exact XGp.iret _ rfl rfl .int rfl rfl ((if_neg hb0).trans ((if_pos hb1).trans ((if_pos hb2).trans ((if_pos hb3).trans (rfl))))) (by repeat (first | exact xP_0 _ | refine xP_up (Nat.le_of_ble_eq_true rfl) ?_))
        · refine XGp.go 3 rfl ?_
          refine XGp.spl (fun hb4 => ?_) (fun hb4 => ?_)
          · refine XGp.go 3 rfl ?_
            refine XGp.spl (fun hb5 => ?_) (fun hb5 => ?_)
            · refine XGp.go 1 rfl ?_
              exact XGp.iret _ rfl rfl .int rfl rfl ((if_neg hb0).trans ((if_pos hb1).trans ((if_pos hb2).trans ((if_neg hb3).trans ((if_pos hb4).trans ((if_pos hb5).trans (rfl))))))) (by repeat (first | exact xP_0 _ | refine xP_up (Nat.le_of_ble_eq_true rfl) ?_))
            · refine XGp.go 3 rfl ?_
              refine XGp.spl (fun hb6 => ?_) (fun hb6 => ?_)
              · refine XGp.go 5 rfl ?_
                refine XGp.ifp (by decide) ?_
                refine XGp.go 7 rfl ?_
                refine XGp.callx [.ref 6, .int _, .int _] _ _ rfl xm_X6_put rfl rfl rfl rfl (fun q => absurd rfl q) (Nat.le_of_ble_eq_true rfl) (k_put_in _ _ _ _ _ _ _ rfl (Nat.le_of_ble_eq_true rfl) (Nat.le_of_ble_eq_true rfl) (by decide) (by decide)) ?_
                refine XGp.go 7 rfl ?_
                refine XGp.callx [.ref 7, .int _, .int _] _ _ rfl xm_X6_put rfl rfl rfl rfl (fun q => absurd rfl q) (Nat.le_of_ble_eq_true rfl) (k_put_in _ _ _ _ _ _ _ rfl (Nat.le_of_ble_eq_true rfl) (Nat.le_of_ble_eq_true rfl) (by decide) (by decide)) ?_
                refine XGp.go 7 rfl ?_
                refine XGp.callx [.ref 8, .int _, .int _] _ _ rfl xm_X6_put rfl rfl rfl rfl (fun q => absurd rfl q) (Nat.le_of_ble_eq_true rfl) (k_put_in _ _ _ _ _ _ _ rfl (Nat.le_of_ble_eq_true rfl) (Nat.le_of_ble_eq_true rfl) (by decide) (by decide)) ?_
                refine XGp.go 6 rfl ?_
                refine XGp.putf rfl rfl (Nat.le_of_ble_eq_true rfl) (Nat.le_of_ble_eq_true rfl) (Nat.le_of_ble_eq_true rfl) rfl rfl ?_
                refine XGp.go 1 rfl ?_
                refine XGp.callx [.ref 2] _ _ rfl xm_X6_forgetCourses rfl rfl rfl rfl (fun _ => ⟨2, _, rfl, rfl, Nat.le_of_ble_eq_true rfl, Nat.le_of_ble_eq_true rfl⟩) (Nat.le_of_ble_eq_true rfl) (f_forget _ _ (by repeat (first | exact xfg_0 _ | refine xfg_up (Nat.le_of_ble_eq_true rfl) (Nat.le_of_ble_eq_true rfl) ?_))) ?_
                refine XGp.go 5 rfl ?_
                exact XGp.iret _ rfl rfl .int rfl rfl ((if_neg hb0).trans ((if_pos hb1).trans ((if_pos hb2).trans ((if_neg hb3).trans ((if_pos hb4).trans ((if_neg hb5).trans ((if_pos hb6).trans (rfl)))))))) (by repeat (first | exact xP_0 _ | refine xP_up (Nat.le_of_ble_eq_true rfl) ?_))
              · refine XGp.go 1 rfl ?_
                exact XGp.iret _ rfl rfl .int rfl rfl ((if_neg hb0).trans ((if_pos hb1).trans ((if_pos hb2).trans ((if_neg hb3).trans ((if_pos hb4).trans ((if_neg hb5).trans ((if_neg hb6).trans (rfl)))))))) (by repeat (first | exact xP_0 _ | refine xP_up (Nat.le_of_ble_eq_true rfl) ?_))
          · refine XGp.go 2 rfl ?_
            exact XGp.iret _ rfl rfl .int rfl rfl ((if_neg hb0).trans ((if_pos hb1).trans ((if_pos hb2).trans ((if_neg hb3).trans ((if_neg hb4).trans (rfl)))))) (by repeat (first | exact xP_0 _ | refine xP_up (Nat.le_of_ble_eq_true rfl) ?_))
      · refine XGp.go 3 rfl ?_
        refine XGp.callx [.ref 3, .int _] _ _ rfl xm_X5_isPerson rfl rfl rfl rfl (fun _ => ⟨3, _, rfl, rfl, Nat.le_of_ble_eq_true rfl, Nat.le_of_ble_eq_true rfl⟩) (Nat.le_of_ble_eq_true rfl) (f_isPerson _ _ _ rfl rfl (Nat.le_of_ble_eq_true rfl) _) ?_
        refine XGp.go 1 rfl ?_
        refine XGp.ifp (by decide) ?_
        refine XGp.go 3 rfl ?_
        refine XGp.callx [.ref 3, .int _] _ _ rfl xm_X5_isChild rfl rfl rfl rfl (fun _ => ⟨3, _, rfl, rfl, Nat.le_of_ble_eq_true rfl, Nat.le_of_ble_eq_true rfl⟩) (Nat.le_of_ble_eq_true rfl) (f_isChild _ _ _ rfl rfl (Nat.le_of_ble_eq_true rfl) _) ?_
        refine XGp.go 1 rfl ?_
        refine XGp.ifp (by decide) ?_
        refine XGp.go 1 rfl ?_
        exact XGp.iret _ rfl rfl .int rfl rfl ((if_neg hb0).trans ((if_pos hb1).trans ((if_neg hb2).trans (rfl)))) (by repeat (first | exact xP_0 _ | refine xP_up (Nat.le_of_ble_eq_true rfl) ?_))
    · refine XGp.go 1 rfl ?_
      exact XGp.iret _ rfl rfl .int rfl rfl ((if_neg hb0).trans ((if_neg hb1).trans (rfl))) (by repeat (first | exact xP_0 _ | refine xP_up (Nat.le_of_ble_eq_true rfl) ?_))
def ac_row (a : Int32) : Int32 := (if a = Int32.ofInt (-1) then (0) else (if a < 0 then (-2) else (if a < (Int16.ofInt (16384)).toInt32 then (1) else (-2))))
theorem f_c_row (d : Nat) (g : Nat → XE) (a : Int32) : XCp (d + 3) 74 [.ref 2, .int a] (xh0 g) (some (.int (ac_row a))) (xP g) := by
  refine XCp.of (M := xm_X6_row) rfl (Nat.le_of_ble_eq_true rfl) ?_
  refine XGp.go 3 rfl ?_
  refine XGp.spl (fun hb0 => ?_) (fun hb0 => ?_)
  · refine XGp.go 3 rfl ?_
    refine XGp.putf rfl rfl (Nat.le_of_ble_eq_true rfl) (Nat.le_of_ble_eq_true rfl) (Nat.le_of_ble_eq_true rfl) rfl rfl ?_
    refine XGp.go 1 rfl ?_
    exact XGp.iret _ rfl rfl .int rfl rfl ((if_pos hb0).trans (rfl)) (by repeat (first | exact xP_0 _ | refine xP_up (Nat.le_of_ble_eq_true rfl) ?_))
  · refine XGp.go 2 rfl ?_
    refine XGp.spl (fun hb1 => ?_) (fun hb1 => ?_)
    · refine XGp.go 1 rfl ?_
      exact XGp.iret _ rfl rfl .int rfl rfl ((if_neg hb0).trans ((if_pos hb1).trans (rfl))) (by repeat (first | exact xP_0 _ | refine xP_up (Nat.le_of_ble_eq_true rfl) ?_))
    · refine XGp.go 3 rfl ?_
      refine XGp.spl (fun hb2 => ?_) (fun hb2 => ?_)
      · refine XGp.go 5 rfl ?_
        refine XGp.ifp (by decide) ?_
        refine XGp.go 7 rfl ?_
        refine XGp.callx [.ref 11, .int _, .int _] _ _ rfl xm_X6_put rfl rfl rfl rfl (fun q => absurd rfl q) (Nat.le_of_ble_eq_true rfl) (k_put_in _ _ _ _ _ _ _ rfl (Nat.le_of_ble_eq_true rfl) (Nat.le_of_ble_eq_true rfl) (by decide) (by decide)) ?_
        refine XGp.go 6 rfl ?_
        refine XGp.putf rfl rfl (Nat.le_of_ble_eq_true rfl) (Nat.le_of_ble_eq_true rfl) (Nat.le_of_ble_eq_true rfl) rfl rfl ?_
        refine XGp.go 3 rfl ?_
        exact XGp.iret _ rfl rfl .int rfl rfl ((if_neg hb0).trans ((if_neg hb1).trans ((if_pos hb2).trans (rfl)))) (by repeat (first | exact xP_0 _ | refine xP_up (Nat.le_of_ble_eq_true rfl) ?_))
      · refine XGp.go 1 rfl ?_
        exact XGp.iret _ rfl rfl .int rfl rfl ((if_neg hb0).trans ((if_neg hb1).trans ((if_neg hb2).trans (rfl)))) (by repeat (first | exact xP_0 _ | refine xP_up (Nat.le_of_ble_eq_true rfl) ?_))
def am_person (a b : Int32) : Int32 := (if b = Int32.ofInt (-1) then (if xin a (Int32.ofInt (0)) ((Int8.ofInt (90)).toInt32) = 0 then (-2) else (0)) else (-1))
theorem f_m_person (d : Nat) (u g : Nat → XE) (a b : Int32) : XCp (d + 5) 113 [.ref 525, .int a, .int b] (xhm u g) (some (.int (am_person a b))) (fun _ => True) := by
  refine XCp.of (M := xm_X7_person) rfl (Nat.le_of_ble_eq_true rfl) ?_
  refine XGp.go 3 rfl ?_
  refine XGp.spl (fun hb0 => ?_) (fun hb0 => ?_)
  · refine XGp.go 3 rfl ?_
    refine XGp.callx [.int _, .int _, .int _] _ _ rfl xm_X7_in rfl rfl rfl rfl (fun q => absurd rfl q) (Nat.le_of_ble_eq_true rfl) (k_in _ _ _ _ _) ?_
    refine XGp.splin (fun hb1 => ?_) (fun hb1 => ?_)
    · refine XGp.go 1 rfl ?_
      refine XGp.ifp (by decide) ?_
      refine XGp.go 1 rfl ?_
      exact XGp.iret _ rfl rfl .int rfl rfl ((if_pos hb0).trans ((if_pos hb1).trans (rfl))) trivial
    · refine XGp.go 1 rfl ?_
      refine XGp.ifn (by decide) ?_
      refine XGp.go 3 rfl ?_
      refine XGp.ifp hb0 ?_
      refine XGp.go 4 rfl ?_
      refine XGp.top 0 (by simp [upd]) ?_
      refine XGp.go 2 rfl ?_
      refine XGp.ifn (by decide) ?_
      refine XGp.go 7 rfl ?_
      refine XGp.top 0 (by simp [upd]) ?_
      refine XGp.go 2 rfl ?_
      refine XGp.iast rfl rfl (Nat.le_of_ble_eq_true rfl) (Nat.le_of_ble_eq_true rfl) (by decide) ?_
      refine XGp.go 7 rfl ?_
      refine XGp.top 0 (by simp [upd]) ?_
      refine XGp.go 2 rfl ?_
      refine XGp.iast rfl rfl (Nat.le_of_ble_eq_true rfl) (Nat.le_of_ble_eq_true rfl) (by decide) ?_
      refine XGp.go 5 rfl ?_
      refine XGp.top 0 (by simp [upd]) ?_
      refine XGp.go 2 rfl ?_
      refine XGp.iast rfl rfl (Nat.le_of_ble_eq_true rfl) (Nat.le_of_ble_eq_true rfl) (by decide) ?_
      refine XGp.go 4 rfl ?_
      refine XGp.top 1 (by simp [upd]) ?_
      refine XGp.go 2 rfl ?_
      exact XGp.iret _ rfl rfl .int rfl rfl ((if_pos hb0).trans ((if_neg (by rw [hb1]; decide)).trans (rfl))) trivial
  · refine XGp.go 6 rfl ?_
    refine XGp.top 0 (by simp [upd]) ?_
    refine XGp.go 2 rfl ?_
    refine XGp.callx [.int _, .int _, .int _] _ _ rfl xm_X7_in rfl rfl rfl rfl (fun q => absurd rfl q) (Nat.le_of_ble_eq_true rfl) (k_in_none _ _ _ _ _ (by decide)) ?_
    refine XGp.go 1 rfl ?_
    refine XGp.ifp (by decide) ?_
    refine XGp.go 1 rfl ?_
    exact XGp.iret _ rfl rfl .int rfl rfl ((if_neg hb0).trans (rfl)) trivial
def am_maybe (a b c : Int32) : Int32 := (if xin a (Int32.ofInt (0)) (Int32.ofInt (3)) = 0 then (-1) else (if a = Int32.ofInt (3) then (if xin b (Int32.ofInt (0)) (Int32.ofInt (3)) = 0 then (-1) else (if xin c (Int32.ofInt (1)) ((Int8.ofInt (40)).toInt32) = 0 then (-2) else (0))) else (-1)))
theorem f_m_maybe (d : Nat) (u g : Nat → XE) (a b c : Int32) : XCp (d + 5) 114 [.ref 525, .int a, .int b, .int c] (xhm u g) (some (.int (am_maybe a b c))) (fun _ => True) := by
  refine XCp.of (M := xm_X7_maybe) rfl (Nat.le_of_ble_eq_true rfl) ?_
  refine XGp.go 3 rfl ?_
  refine XGp.callx [.int _, .int _, .int _] _ _ rfl xm_X7_in rfl rfl rfl rfl (fun q => absurd rfl q) (Nat.le_of_ble_eq_true rfl) (k_in _ _ _ _ _) ?_
  refine XGp.splin (fun hb0 => ?_) (fun hb0 => ?_)
  · refine XGp.go 1 rfl ?_
    refine XGp.ifp (by decide) ?_
    refine XGp.go 1 rfl ?_
    exact XGp.iret _ rfl rfl .int rfl rfl ((if_pos hb0).trans (rfl)) trivial
  · refine XGp.go 1 rfl ?_
    refine XGp.ifn (by decide) ?_
    refine XGp.go 3 rfl ?_
    refine XGp.spl (fun hb1 => ?_) (fun hb1 => ?_)
    · refine XGp.go 3 rfl ?_
      refine XGp.callx [.int _, .int _, .int _] _ _ rfl xm_X7_in rfl rfl rfl rfl (fun q => absurd rfl q) (Nat.le_of_ble_eq_true rfl) (k_in _ _ _ _ _) ?_
      refine XGp.splin (fun hb2 => ?_) (fun hb2 => ?_)
      · refine XGp.go 1 rfl ?_
        refine XGp.ifp (by decide) ?_
        refine XGp.go 2 rfl ?_
        exact XGp.iret _ rfl rfl .int rfl rfl ((if_neg (by rw [hb0]; decide)).trans ((if_pos hb1).trans ((if_pos hb2).trans (rfl)))) trivial
      · refine XGp.go 1 rfl ?_
        refine XGp.ifn (by decide) ?_
        refine XGp.go 3 rfl ?_
        refine XGp.callx [.int _, .int _, .int _] _ _ rfl xm_X7_in rfl rfl rfl rfl (fun q => absurd rfl q) (Nat.le_of_ble_eq_true rfl) (k_in _ _ _ _ _) ?_
        refine XGp.splin (fun hb3 => ?_) (fun hb3 => ?_)
        · refine XGp.go 1 rfl ?_
          refine XGp.ifp (by decide) ?_
          refine XGp.go 1 rfl ?_
          exact XGp.iret _ rfl rfl .int rfl rfl ((if_neg (by rw [hb0]; decide)).trans ((if_pos hb1).trans ((if_neg (by rw [hb2]; decide)).trans ((if_pos hb3).trans (rfl))))) trivial
        · refine XGp.go 1 rfl ?_
          refine XGp.ifn (by decide) ?_
          refine XGp.go 4 rfl ?_
          refine XGp.top 0 (by simp [upd]) ?_
          refine XGp.go 2 rfl ?_
          refine XGp.ifn (by decide) ?_
          refine XGp.go 4 rfl ?_
          refine XGp.top 0 (by simp [upd]) ?_
          refine XGp.go 7 rfl ?_
          refine XGp.iast rfl rfl (Nat.le_of_ble_eq_true rfl) (Nat.le_of_ble_eq_true rfl) (by decide) ?_
          refine XGp.go 6 rfl ?_
          refine XGp.iast rfl rfl (Nat.le_of_ble_eq_true rfl) (Nat.le_of_ble_eq_true rfl) (by decide) ?_
          refine XGp.go 6 rfl ?_
          refine XGp.iast rfl rfl (Nat.le_of_ble_eq_true rfl) (Nat.le_of_ble_eq_true rfl) (by decide) ?_
          refine XGp.go 5 rfl ?_
          refine XGp.top 0 (by simp [upd]) ?_
          refine XGp.go 2 rfl ?_
          refine XGp.iast rfl rfl (Nat.le_of_ble_eq_true rfl) (Nat.le_of_ble_eq_true rfl) (by decide) ?_
          refine XGp.go 1 rfl ?_
          exact XGp.iret _ rfl rfl .int rfl rfl ((if_neg (by rw [hb0]; decide)).trans ((if_pos hb1).trans ((if_neg (by rw [hb2]; decide)).trans ((if_neg (by rw [hb3]; decide)).trans (rfl))))) trivial
    · refine XGp.go 2 rfl ?_
      refine XGp.callx [.ref 525, .int _] _ _ rfl xm_X7_isThere rfl rfl rfl rfl (fun _ => ⟨525, _, rfl, rfl, Nat.le_of_ble_eq_true rfl, Nat.le_of_ble_eq_true rfl⟩) (Nat.le_of_ble_eq_true rfl) (f_isThere _ _ _ _ _ rfl rfl rfl rfl rfl rfl) ?_
      refine XGp.go 1 rfl ?_
      refine XGp.ifp (by decide) ?_
      refine XGp.go 1 rfl ?_
      exact XGp.iret _ rfl rfl .int rfl rfl ((if_neg (by rw [hb0]; decide)).trans ((if_neg hb1).trans (rfl))) trivial
def am_row (a : Int32) : Int32 := (if a = Int32.ofInt (-1) then (0) else (if xin a (Int32.ofInt (0)) ((Int16.ofInt (16383)).toInt32) = 0 then (-2) else (1)))
theorem f_m_row (d : Nat) (u g : Nat → XE) (a : Int32) : XCp (d + 5) 154 [.ref 525, .int a] (xhm u g) (some (.int (am_row a))) (fun _ => True) := by
  refine XCp.of (M := xm_X7_row) rfl (Nat.le_of_ble_eq_true rfl) ?_
  refine XGp.go 3 rfl ?_
  refine XGp.spl (fun hb0 => ?_) (fun hb0 => ?_)
  · refine XGp.go 4 rfl ?_
    refine XGp.iast rfl rfl (Nat.le_of_ble_eq_true rfl) (Nat.le_of_ble_eq_true rfl) (by decide) ?_
    refine XGp.go 1 rfl ?_
    exact XGp.iret _ rfl rfl .int rfl rfl ((if_pos hb0).trans (rfl)) trivial
  · refine XGp.go 3 rfl ?_
    refine XGp.callx [.int _, .int _, .int _] _ _ rfl xm_X7_in rfl rfl rfl rfl (fun q => absurd rfl q) (Nat.le_of_ble_eq_true rfl) (k_in _ _ _ _ _) ?_
    refine XGp.splin (fun hb1 => ?_) (fun hb1 => ?_)
    · refine XGp.go 1 rfl ?_
      refine XGp.ifp (by decide) ?_
      refine XGp.go 1 rfl ?_
      exact XGp.iret _ rfl rfl .int rfl rfl ((if_neg hb0).trans ((if_pos hb1).trans (rfl))) trivial
    · refine XGp.go 1 rfl ?_
      refine XGp.ifn (by decide) ?_
      refine XGp.go 4 rfl ?_
      refine XGp.top 0 (by simp [upd]) ?_
      refine XGp.go 2 rfl ?_
      refine XGp.ifn (by decide) ?_
      refine XGp.go 7 rfl ?_
      refine XGp.top 0 (by simp [upd]) ?_
      refine XGp.go 2 rfl ?_
      refine XGp.iast rfl rfl (Nat.le_of_ble_eq_true rfl) (Nat.le_of_ble_eq_true rfl) (by decide) ?_
      refine XGp.go 5 rfl ?_
      refine XGp.top 0 (by simp [upd]) ?_
      refine XGp.go 2 rfl ?_
      refine XGp.iast rfl rfl (Nat.le_of_ble_eq_true rfl) (Nat.le_of_ble_eq_true rfl) (by decide) ?_
      refine XGp.go 4 rfl ?_
      refine XGp.top 1 (by simp [upd]) ?_
      exact XGp.iret _ rfl rfl .int rfl rfl ((if_neg hb0).trans ((if_neg (by rw [hb1]; decide)).trans (rfl))) trivial
