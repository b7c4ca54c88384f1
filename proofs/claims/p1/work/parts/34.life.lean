def xB14 : XE := .inr (.inl (0, 14, fun i => if 0 ≤ i ∧ i < 14 then (Int16.ofInt 1000).toInt32 else 0))
def xhS (g : Nat → XE) : XH := xup (xup (xh0 g) 81 xB14) 82 xB14
def xhF (g : Nat → XE) : XH := xup (xhS g) 77 (.inl (0, [.int 0, .ref 78, .ref 79, .ref 80, .ref 81, .ref 82, .ref 83, .int (Int8.ofInt (-5)).toInt32, .int (Int16.ofInt 1000).toInt32, .int 0, .int 0, .int 0]))
def xhL (g : Nat → XE) : XH := xup (xhS g) 77 (.inl (0, [.int (Int32.ofInt 1), .ref 78, .ref 79, .ref 80, .ref 81, .ref 82, .ref 83, .int (Int8.ofInt (-5)).toInt32, .int (Int16.ofInt 1000).toInt32, .int 0, .int 0, .int 0]))
theorem g_start (d : Nat) (g : Nat → XE) : XCall xM (d + 2) 2 [.ref 77, .ref 3] (xh0 g) none (xhS g) := by
  refine XCall.of (M := xm_X0_start) rfl (Nat.le_of_ble_eq_true rfl) (XGp.of ?_)
  refine XGp.go 7 rfl ?_
  refine XGp.putf rfl rfl (Nat.le_of_ble_eq_true rfl) (Nat.le_of_ble_eq_true rfl) (Nat.le_of_ble_eq_true rfl) rfl rfl ?_
  refine XGp.same rfl ?_
  refine XGp.go 2 rfl ?_
  refine XGp.putf rfl rfl (Nat.le_of_ble_eq_true rfl) (Nat.le_of_ble_eq_true rfl) (Nat.le_of_ble_eq_true rfl) rfl rfl ?_
  refine XGp.same rfl ?_
  refine XGp.go 2 rfl ?_
  refine XGp.putf rfl rfl (Nat.le_of_ble_eq_true rfl) (Nat.le_of_ble_eq_true rfl) (Nat.le_of_ble_eq_true rfl) rfl rfl ?_
  refine XGp.same rfl ?_
  refine XGp.go 3 rfl ?_
  refine XGp.callx [.ref 81, .int _] _ _ rfl xm_X6_fill rfl rfl rfl rfl (fun q => absurd rfl q) (Nat.le_of_ble_eq_true rfl) (k_fill _ _ _ _ _ _ rfl (Nat.le_of_ble_eq_true rfl) (Nat.le_of_ble_eq_true rfl) (by decide)) ?_
  refine XGp.go 3 rfl ?_
  refine XGp.callx [.ref 82, .int _] _ _ rfl xm_X6_fill rfl rfl rfl rfl (fun q => absurd rfl q) (Nat.le_of_ble_eq_true rfl) (k_fill _ _ _ _ _ _ rfl (Nat.le_of_ble_eq_true rfl) (Nat.le_of_ble_eq_true rfl) (by decide)) ?_
  refine XGp.go 3 rfl ?_
  refine XGp.callx [.ref 83, .int _] _ _ rfl xm_X6_fill rfl rfl rfl rfl (fun q => absurd rfl q) (Nat.le_of_ble_eq_true rfl) (k_fill0 _ _ _ _ rfl (Nat.le_of_ble_eq_true rfl) (Nat.le_of_ble_eq_true rfl) (by decide)) ?_
  refine XGp.go 6 rfl ?_
  refine XGp.ifp (by decide) ?_
  exact XGp.vret _ rfl rfl rfl rfl
theorem g_findLast (d : Nat) (g : Nat → XE) : XCall xM (d + 1) 5 [.ref 77, .int ((0))] (xhS g) none (xhF g) := by
  refine XCall.of (M := xm_X0_findLast) rfl (Nat.le_of_ble_eq_true rfl) (XGp.of ?_)
  refine XGp.go 2 rfl ?_
  refine XGp.putf rfl rfl (Nat.le_of_ble_eq_true rfl) (Nat.le_of_ble_eq_true rfl) (Nat.le_of_ble_eq_true rfl) rfl rfl ?_
  refine XGp.go 2 rfl ?_
  refine XGp.putf rfl rfl (Nat.le_of_ble_eq_true rfl) (Nat.le_of_ble_eq_true rfl) (Nat.le_of_ble_eq_true rfl) rfl rfl ?_
  refine XGp.upup ?_
  refine XGp.go 5 rfl ?_
  refine XGp.ifp (by decide) ?_
  exact XGp.vret _ rfl rfl rfl rfl
theorem g_learn_loop (d : Nat) (g : Nat → XE) : ∀ (k n : Nat) (j4 : Option Value), n + k = 41 → XGo (d + 2) xm_X0_learn (7, [some (.ref 77), some (.ref 3), some (.int 0), some (.int (nI n)), j4], [], xhS g) none (xhL g)
  | 0, n, j4, hn => by
    have e : n = 41 := by omega
    subst e
    refine XGp.of ?_
    refine XGp.go 3 rfl ?_
    refine XGp.ifp (by decide) ?_
    refine XGp.go 3 rfl ?_
    refine XGp.callx [.ref 77, .int 0] _ _ rfl xm_X0_findLast rfl rfl rfl rfl (fun _ => ⟨77, _, rfl, rfl, Nat.le_of_ble_eq_true rfl, Nat.le_of_ble_eq_true rfl⟩) (Nat.le_of_ble_eq_true rfl) (g_findLast _ g) ?_
    refine XGp.go 2 rfl ?_
    refine XGp.putf (h := xhF g) rfl rfl (Nat.le_of_ble_eq_true rfl) (Nat.le_of_ble_eq_true rfl) (Nat.le_of_ble_eq_true rfl) rfl rfl ?_
    refine XGp.upup ?_
    exact XGp.vret _ rfl rfl rfl rfl
  | k + 1, n, j4, hn => by
    have hb : n < 2147483648 := by omega
    have hc : ¬ (nI n < 0 ∨ 41 ≤ (nI n).toNatClampNeg) := fun q => q.elim (xnI_lt0 hb) (fun z => by rw [xnI_nat hb] at z; omega)
    refine XGp.of ?_
    refine XGp.go 3 rfl ?_
    refine XGp.ifn (fun q => absurd ((xnI_ge (m := 41) (by decide) hb).mp q) (by omega)) ?_
    refine XGp.go 6 rfl ?_
    refine XGp.ifp (by decide) ?_
    refine XGp.go 5 rfl ?_
    refine XGp.iast rfl rfl (Nat.le_of_ble_eq_true rfl) (Nat.le_of_ble_eq_true rfl) hc ?_
    refine XGp.same (congrArg (fun f => (Sum.inr (Sum.inl (0, _, f)) : XE)) (xupd0 _).symm) ?_
    refine XGp.go 5 rfl ?_
    refine XGp.iast rfl rfl (Nat.le_of_ble_eq_true rfl) (Nat.le_of_ble_eq_true rfl) hc ?_
    refine XGp.same (congrArg (fun f => (Sum.inr (Sum.inl (0, _, f)) : XE)) (xupd0 _).symm) ?_
    refine XGp.go 5 rfl ?_
    refine XGp.iast rfl rfl (Nat.le_of_ble_eq_true rfl) (Nat.le_of_ble_eq_true rfl) hc ?_
    refine XGp.same (congrArg (fun f => (Sum.inr (Sum.inl (0, _, f)) : XE)) (xupd0 _).symm) ?_
    refine XGp.go 2 rfl ?_
    have gg := g_learn_loop d g k (n + 1) (some (.int (Int32.ofInt 0))) (by omega)
    rw [← nI_1] at gg
    exact ⟨_, rfl, gg⟩
theorem g_learn (d : Nat) (g : Nat → XE) : XCall xM (d + 3) 1 [.ref 77, .ref 3, .int 0] (xh0 g) none (xhL g) := by
  refine XCall.of (M := xm_X0_learn) rfl (Nat.le_of_ble_eq_true rfl) (XGp.of ?_)
  refine XGp.go 2 rfl ?_
  refine XGp.callx [.ref 77, .ref 3] _ _ rfl xm_X0_start rfl rfl rfl rfl (fun _ => ⟨77, _, rfl, rfl, Nat.le_of_ble_eq_true rfl, Nat.le_of_ble_eq_true rfl⟩) (Nat.le_of_ble_eq_true rfl) (g_start _ g) ?_
  refine XGp.go 2 rfl ?_
  exact ⟨_, rfl, g_learn_loop _ g 41 0 none rfl⟩
theorem g_courseOf (d : Nat) (g : Nat → XE) : XCall xM (d + 4) 97 [.ref 2, .int 0] (xh0 g) (some (.ref 77)) (xhL g) := by
  refine XCall.of (M := xm_X6_courseOf) rfl (Nat.le_of_ble_eq_true rfl) (XGp.of ?_)
  refine XGp.go 9 rfl ?_
  refine XGp.go 1 rfl ?_
  refine XGp.ifp (by decide) ?_
  refine XGp.go 4 rfl ?_
  refine XGp.callx [.ref 77, .ref 3, .int 0] _ _ rfl xm_X0_learn rfl rfl rfl rfl (fun _ => ⟨77, _, rfl, rfl, Nat.le_of_ble_eq_true rfl, Nat.le_of_ble_eq_true rfl⟩) (Nat.le_of_ble_eq_true rfl) (g_learn _ g) ?_
  refine XGp.go 1 rfl ?_
  exact XGp.aret _ rfl rfl _ rfl (Or.inr ⟨77, rfl⟩) rfl
theorem xP_L (g : Nat → XE) : xP g (xhL g) := xP_up (by decide) (xP_up (by decide) (xP_up (by decide) (xP_0 g)))
theorem k_isPeople (d : Nat) (h : XH) (v : Int32) : XCall xM (d + 1) 89 [.int v] h (some (.int (xin v 0 13))) h := by
  refine XCall.of (M := xm_X6_isOneOfPeople) rfl (Nat.le_of_ble_eq_true rfl) (XGp.of ?_)
  have e := xlt_le (v := v) (k := 14) (k1 := 13) (by decide)
  refine XGp.go 2 rfl ?_
  refine XGp.spl (fun h1 => ?_) (fun h1 => ?_)
  · refine XGp.go 1 rfl ?_
    exact XGp.iret _ rfl rfl .boolean rfl rfl (xin_lo h1) rfl
  · refine XGp.go 3 rfl ?_
    refine XGp.spl (fun h2 => ?_) (fun h2 => ?_)
    · refine XGp.go 1 rfl ?_
      exact XGp.iret _ rfl rfl .boolean rfl rfl (xin_hi (fun q => absurd (e.mpr q) (Int32.not_lt.mpr h2))) rfl
    · refine XGp.go 2 rfl ?_
      exact XGp.iret _ rfl rfl .boolean rfl rfl (xin_pos h1 (e.mp (Int32.not_le.mp h2))) rfl
theorem k_isYear (d : Nat) (h : XH) (v : Int32) : XCall xM (d + 1) 90 [.int v] h (some (.int (xin v 0 40))) h := by
  refine XCall.of (M := xm_X6_isYear) rfl (Nat.le_of_ble_eq_true rfl) (XGp.of ?_)
  refine XGp.go 2 rfl ?_
  refine XGp.spl (fun h1 => ?_) (fun h1 => ?_)
  · refine XGp.go 1 rfl ?_
    exact XGp.iret _ rfl rfl .boolean rfl rfl (xin_lo h1) rfl
  · refine XGp.go 3 rfl ?_
    refine XGp.spl (fun h2 => ?_) (fun h2 => ?_)
    · refine XGp.go 1 rfl ?_
      exact XGp.iret _ rfl rfl .boolean rfl rfl (xin_hi (Int32.not_le.mpr h2)) rfl
    · refine XGp.go 2 rfl ?_
      exact XGp.iret _ rfl rfl .boolean rfl rfl (xin_pos h1 (Int32.not_lt.mp h2)) rfl
theorem g_isCourse (d : Nat) (g : Nat → XE) (v : Int32) : XCall xM (d + 2) 92 [.ref 2, .int v] (xh0 g) (some (.int (xin v 0 0))) (xh0 g) := by
  refine XCall.of (M := xm_X6_isCourse) rfl (Nat.le_of_ble_eq_true rfl) (XGp.of ?_)
  have e := xlt_le (v := v) (k := 1) (k1 := 0) (by decide)
  have hc : XCall xM (d + 1) 93 [.ref 2] (xh0 g) (some (.int 1)) (xh0 g) := by
    refine XCall.of (M := xm_X6_coursesThereAre) rfl (Nat.le_of_ble_eq_true rfl) (XGp.of ?_)
    refine XGp.go 5 rfl ?_
    exact XGp.iret _ rfl rfl .int rfl rfl (by decide) rfl
  refine XGp.go 2 rfl ?_
  refine XGp.spl (fun h1 => ?_) (fun h1 => ?_)
  · refine XGp.go 1 rfl ?_
    exact XGp.iret _ rfl rfl .boolean rfl rfl (xin_lo h1) rfl
  · refine XGp.go 2 rfl ?_
    refine XGp.callx [.ref 2] [.int v] _ rfl xm_X6_coursesThereAre rfl rfl rfl rfl (fun _ => ⟨2, _, rfl, rfl, Nat.le_of_ble_eq_true rfl, Nat.le_of_ble_eq_true rfl⟩) (Nat.le_of_ble_eq_true rfl) hc ?_
    refine XGp.go 1 rfl ?_
    refine XGp.spl (fun h2 => ?_) (fun h2 => ?_)
    · refine XGp.go 1 rfl ?_
      exact XGp.iret _ rfl rfl .boolean rfl rfl (xin_hi (fun q => absurd (e.mpr q) (Int32.not_lt.mpr h2))) rfl
    · refine XGp.go 2 rfl ?_
      exact XGp.iret _ rfl rfl .boolean rfl rfl (xin_pos h1 (e.mp (Int32.not_le.mp h2))) rfl
theorem xin_1 {v lo hi : Int32} (h : xin v lo hi = 1) : ¬ v < lo ∧ v ≤ hi := by
  unfold xin at h
  by_cases h1 : v < lo
  · rw [if_pos h1] at h
    exact absurd h (by decide)
  · rw [if_neg h1] at h
    by_cases h2 : hi < v
    · rw [if_pos h2] at h
      exact absurd h (by decide)
    · exact ⟨h1, Int32.not_lt.mp h2⟩
theorem xin_nat {v hi : Int32} {n : Nat} (h : xin v 0 hi = 1) (hn : hi.toInt = n) : v.toNatClampNeg ≤ n := by
  obtain ⟨h1, h2⟩ := xin_1 h
  have a := Int32.le_iff_toInt_le.mp h2
  show v.toInt.toNat ≤ n
  omega
theorem xin_00 {v : Int32} (h : xin v 0 0 = 1) : v = 0 := by
  obtain ⟨h1, h2⟩ := xin_1 h
  have a := Int32.le_iff_toInt_le.mp h2
  have b := Int32.le_iff_toInt_le.mp (Int32.not_lt.mp h1)
  exact Int32.toInt_inj.mp (by omega)
def a_measure (c : Int32) : Int32 := if xin c 0 0 = 0 then -2 else -5
theorem f_c_measure (d : Nat) (g : Nat → XE) (c : Int32) : XCp (d + 5) 76 [.ref 2, .int c] (xh0 g) (some (.int (a_measure c))) (xP g) := by
  refine XCp.of (M := xm_X6_measure) rfl (Nat.le_of_ble_eq_true rfl) ?_
  refine XGp.go 2 rfl ?_
  refine XGp.callx [.ref 2, .int c] _ _ rfl xm_X6_isCourse rfl rfl rfl rfl (fun _ => ⟨2, _, rfl, rfl, Nat.le_of_ble_eq_true rfl, Nat.le_of_ble_eq_true rfl⟩) (Nat.le_of_ble_eq_true rfl) (g_isCourse _ g c) ?_
  refine XGp.splin (fun hb => ?_) (fun hb => ?_)
  · refine XGp.go 1 rfl ?_
    refine XGp.ifp (by decide) ?_
    refine XGp.go 1 rfl ?_
    exact XGp.iret _ rfl rfl .int rfl rfl ((if_pos hb).trans rfl) (xP_0 g)
  · obtain rfl := xin_00 hb
    refine XGp.go 1 rfl ?_
    refine XGp.ifn (by decide) ?_
    refine XGp.go 2 rfl ?_
    refine XGp.callx [.ref 2, .int 0] _ _ rfl xm_X6_courseOf rfl rfl rfl rfl (fun _ => ⟨2, _, rfl, rfl, Nat.le_of_ble_eq_true rfl, Nat.le_of_ble_eq_true rfl⟩) (Nat.le_of_ble_eq_true rfl) (g_courseOf _ g) ?_
    refine XGp.go 2 rfl ?_
    exact XGp.iret _ rfl rfl .int rfl rfl (by decide) (xP_L g)
theorem xshr0 (p : Int32) : ((0 : Int32) >>> (p &&& 31)) &&& Int32.ofInt 1 = 0 := by
  have e : (0 : Int32) >>> (p &&& 31) = 0 := by
    apply Int32.toBitVec_inj.mp
    simp
  rw [e]
  decide
def a_life (p c y w : Int32) : Int32 := if xin p 0 13 = 0 then -1 else if xin w 0 2 = 0 then -1 else if xin c 0 0 = 0 then -2 else if xin y 0 40 = 0 then -2 else if w = 1 then -5 else 0
theorem x_w2 {w : Int32} (h : xin w 0 2 = 1) : w = 0 ∨ w = 1 ∨ w = 2 := by
  obtain ⟨h1, h2⟩ := xin_1 h
  have a := Int32.le_iff_toInt_le.mp h2
  have b := Int32.le_iff_toInt_le.mp (Int32.not_lt.mp h1)
  have c2 : (2 : Int32).toInt = 2 := by decide
  have c0 : (0 : Int32).toInt = 0 := by decide
  have e : w.toInt = 0 ∨ w.toInt = 1 ∨ w.toInt = 2 := by omega
  rcases e with e | e | e
  · exact Or.inl (Int32.toInt_inj.mp (by rw [e]; decide))
  · exact Or.inr (Or.inl (Int32.toInt_inj.mp (by rw [e]; decide)))
  · exact Or.inr (Or.inr (Int32.toInt_inj.mp (by rw [e]; decide)))
theorem k_at_in (d : Nat) (h : XH) (r n : Nat) (f : Nat → Int32) (i x : Int32) (hr : h.2.2 r = .inr (.inl (0, n, f))) (hk : r < h.1) (hn : n < 2147483648) (hx : (if i < 0 ∨ n ≤ i.toNatClampNeg then 0 else f i.toNatClampNeg) = x) : XCall xM (d + 1) 102 [.ref r, .int i] h (some (.int x)) h := by
  have g := k_at d h r n f i hr hk hn
  rw [hx] at g
  exact g
theorem f_c_life (d : Nat) (g : Nat → XE) (p c y w : Int32) : XCp (d + 5) 64 [.ref 2, .int p, .int c, .int y, .int w] (xh0 g) (some (.int (a_life p c y w))) (xP g) := by
  refine XCp.of (M := xm_X6_life) rfl (Nat.le_of_ble_eq_true rfl) ?_
  refine XGp.go 1 rfl ?_
  refine XGp.callx [.int p] _ _ rfl xm_X6_isOneOfPeople rfl rfl rfl rfl (fun q => absurd rfl q) (Nat.le_of_ble_eq_true rfl) (k_isPeople _ _ p) ?_
  refine XGp.splin (fun hp => ?_) (fun hp => ?_)
  · refine XGp.go 1 rfl ?_
    refine XGp.ifp (by decide) ?_
    refine XGp.go 1 rfl ?_
    exact XGp.iret _ rfl rfl .int rfl rfl ((if_pos hp).trans rfl) (xP_0 g)
  have np : ¬ xin p 0 13 = 0 := by rw [hp]; decide
  refine XGp.go 1 rfl ?_
  refine XGp.ifn (by decide) ?_
  refine XGp.go 2 rfl ?_
  refine XGp.spl (fun h1 => ?_) (fun h1 => ?_)
  · refine XGp.go 1 rfl ?_
    exact XGp.iret _ rfl rfl .int rfl rfl (((if_neg np).trans (if_pos (xin_lo h1))).trans rfl) (xP_0 g)
  refine XGp.go 3 rfl ?_
  refine XGp.spl (fun h2 => ?_) (fun h2 => ?_)
  rotate_left
  · refine XGp.go 1 rfl ?_
    exact XGp.iret _ rfl rfl .int rfl rfl (((if_neg np).trans (if_pos (xin_hi h2))).trans rfl) (xP_0 g)
  have hw : xin w 0 2 = 1 := xin_pos h1 h2
  have nw : ¬ xin w 0 2 = 0 := by rw [hw]; decide
  refine XGp.go 2 rfl ?_
  refine XGp.callx [.ref 2, .int c] _ _ rfl xm_X6_isCourse rfl rfl rfl rfl (fun _ => ⟨2, _, rfl, rfl, Nat.le_of_ble_eq_true rfl, Nat.le_of_ble_eq_true rfl⟩) (Nat.le_of_ble_eq_true rfl) (g_isCourse _ g c) ?_
  refine XGp.splin (fun hb => ?_) (fun hb => ?_)
  · refine XGp.go 1 rfl ?_
    refine XGp.ifp (by decide) ?_
    refine XGp.go 1 rfl ?_
    exact XGp.iret _ rfl rfl .int rfl rfl (((if_neg np).trans ((if_neg nw).trans (if_pos hb))).trans rfl) (xP_0 g)
  obtain rfl := xin_00 hb
  have nb : ¬ xin 0 0 0 = 0 := by decide
  refine XGp.go 1 rfl ?_
  refine XGp.ifn (by decide) ?_
  refine XGp.go 1 rfl ?_
  refine XGp.callx [.int y] _ _ rfl xm_X6_isYear rfl rfl rfl rfl (fun q => absurd rfl q) (Nat.le_of_ble_eq_true rfl) (k_isYear _ _ y) ?_
  refine XGp.splin (fun hy => ?_) (fun hy => ?_)
  · refine XGp.go 1 rfl ?_
    refine XGp.ifp (by decide) ?_
    refine XGp.go 1 rfl ?_
    exact XGp.iret _ rfl rfl .int rfl rfl (((if_neg np).trans ((if_neg nw).trans ((if_neg nb).trans (if_pos hy)))).trans rfl) (xP_0 g)
  have ny : ¬ xin y 0 40 = 0 := by rw [hy]; decide
  refine XGp.go 1 rfl ?_
  refine XGp.ifn (by decide) ?_
  refine XGp.go 2 rfl ?_
  refine XGp.callx [.ref 2, .int 0] _ _ rfl xm_X6_courseOf rfl rfl rfl rfl (fun _ => ⟨2, _, rfl, rfl, Nat.le_of_ble_eq_true rfl, Nat.le_of_ble_eq_true rfl⟩) (Nat.le_of_ble_eq_true rfl) (g_courseOf _ g) ?_
  have tr : a_life p 0 y w = if w = 1 then -5 else 0 := (if_neg np).trans ((if_neg nw).trans ((if_neg nb).trans (if_neg ny)))
  have f0 : ∀ (n : Nat) (i : Int32), (if i < 0 ∨ n ≤ i.toNatClampNeg then (0 : Int32) else (fun _ => 0) i.toNatClampNeg) = 0 := fun n i => by split <;> rfl
  rw [tr]
  rcases x_w2 hw with rfl | rfl | rfl
  · refine XGp.go 2 rfl ?_
    refine XGp.go 1 rfl ?_
    refine XGp.ifp (by decide) ?_
    refine XGp.go 3 rfl ?_
    refine XGp.callx [.ref 78, .int y] _ _ rfl xm_X6_at rfl rfl rfl rfl (fun q => absurd rfl q) (Nat.le_of_ble_eq_true rfl) (k_at_in _ _ _ _ (fun _ => 0) _ 0 rfl (Nat.le_of_ble_eq_true rfl) (by decide) (f0 _ _)) ?_
    refine XGp.go 4 rfl ?_
    exact XGp.iret _ rfl rfl .int rfl rfl (xshr0 p).symm (xP_L g)
  · refine XGp.go 2 rfl ?_
    refine XGp.go 1 rfl ?_
    refine XGp.ifn (by decide) ?_
    refine XGp.go 3 rfl ?_
    refine XGp.ifn (by decide) ?_
    refine XGp.go 3 rfl ?_
    have hn : ¬ (p < 0 ∨ 14 ≤ p.toNatClampNeg) := fun q => q.elim (xin_1 hp).1 (fun z => by have := xin_nat (n := 13) hp (by decide); omega)
    have hv : (if p < 0 ∨ 14 ≤ p.toNatClampNeg then (0 : Int32) else (fun i => if 0 ≤ i ∧ i < 14 then (Int16.ofInt 1000).toInt32 else 0) p.toNatClampNeg) = 1000 := by
      rw [if_neg hn]
      show (if 0 ≤ p.toNatClampNeg ∧ p.toNatClampNeg < 14 then (Int16.ofInt 1000).toInt32 else 0) = 1000
      rw [if_pos (by have := xin_nat (n := 13) hp (by decide); omega)]
      decide
    refine XGp.callx [.ref 81, .int p] _ _ rfl xm_X6_at rfl rfl rfl rfl (fun q => absurd rfl q) (Nat.le_of_ble_eq_true rfl) (k_at_in _ _ _ _ _ _ 1000 rfl (Nat.le_of_ble_eq_true rfl) (by decide) hv) ?_
    refine XGp.go 4 rfl ?_
    have hlt : ¬ (1000 : Int32) ≤ y := fun q => by
      have a := Int32.le_iff_toInt_le.mp q
      have b := Int32.le_iff_toInt_le.mp (xin_1 hy).2
      have c1 : (1000 : Int32).toInt = 1000 := by decide
      have c2 : (40 : Int32).toInt = 40 := by decide
      omega
    refine XGp.ifn hlt ?_
    refine XGp.go 2 rfl ?_
    exact XGp.iret _ rfl rfl .int rfl rfl (by decide) (xP_L g)
  · refine XGp.go 2 rfl ?_
    refine XGp.go 1 rfl ?_
    refine XGp.ifn (by decide) ?_
    refine XGp.go 3 rfl ?_
    refine XGp.ifp (by decide) ?_
    refine XGp.go 3 rfl ?_
    refine XGp.callx [.ref 79, .int y] _ _ rfl xm_X6_at rfl rfl rfl rfl (fun q => absurd rfl q) (Nat.le_of_ble_eq_true rfl) (k_at_in _ _ _ _ (fun _ => 0) _ 0 rfl (Nat.le_of_ble_eq_true rfl) (by decide) (f0 _ _)) ?_
    refine XGp.go 4 rfl ?_
    exact XGp.iret _ rfl rfl .int rfl rfl (xshr0 p).symm (xP_L g)
