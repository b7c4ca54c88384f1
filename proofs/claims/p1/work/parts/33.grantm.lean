theorem XGp.upup {d : Nat} {M : XMeth} {pc k : Nat} {e e2 : XE} {L : XL} {st : List Value} {h : XH} {r : Option Value} {P : XH → Prop} (g : XGp d M (pc, L, st, xup h k e2) r P) : XGp d M (pc, L, st, xup (xup h k e) k e2) r P := by rw [xup_up]; exact g
def xhk (u g : Nat → XE) (F : Nat → Int32) : XH := xup (xup (xhm u g) 525 (.inl (7, [.int 0, .ref 526, .ref 527, .int 0, .ref 528, .ref 529, .ref 530, .ref 531, .int 0, .int 0, .int 1, .ref 532, .ref 533, .ref 534, .int 0, .int 0, .int 0, .int 0, .ref 535, .ref 536, .ref 537, .int 0, .int 0, .int 0, .int 0]))) 526 (.inr (.inl (0, 490, F)))
theorem k_mat (d : Nat) (h : XH) (x y : Int32) : XCall xM (d + 1) 129 [.int x, .int y] h (some (.int ((Int16.ofInt 140).toInt32 + (Int8.ofInt 8).toInt32 * ((Int8.ofInt 6).toInt32 * x + y)))) h := by
  refine XCall.of (M := xm_X7_at) rfl (Nat.le_of_ble_eq_true rfl) ?_
  refine XGo.go 9 rfl ?_
  exact XGo.iret _ rfl rfl .int rfl rfl
theorem g_m_here (d : Nat) (u g : Nat → XE) : XCall xM (d + 1) 121 [.ref 525] (xhm u g) (some (.int (-1))) (xhm u g) := by
  refine XCall.of (M := xm_X7_here) rfl (Nat.le_of_ble_eq_true rfl) (XGp.of ?_)
  refine XGp.go 5 rfl ?_
  refine XGp.ifp (by decide) ?_
  refine XGp.go 1 rfl ?_
  exact XGp.iret _ rfl rfl .int rfl rfl rfl rfl
theorem g_m_must (d : Nat) (u g : Nat → XE) (F : Nat → Int32) : XCall xM (d + 2) 122 [.ref 525, .int ((Int8.ofInt 32).toInt32)] (xhk u g F) none (xhk u g F) := by
  refine XCall.of (M := xm_X7_must) rfl (Nat.le_of_ble_eq_true rfl) (XGp.of ?_)
  refine XGp.go 4 rfl ?_
  refine XGp.ifn (by decide) ?_
  refine XGp.go 2 rfl ?_
  refine XGp.putf rfl rfl (Nat.le_of_ble_eq_true rfl) (Nat.le_of_ble_eq_true rfl) (Nat.le_of_ble_eq_true rfl) rfl rfl ?_
  refine XGp.same rfl ?_
  refine XGp.go 6 rfl ?_
  refine XGp.ifn (by decide) ?_
  refine XGp.go 3 rfl ?_
  refine XGp.putf rfl rfl (Nat.le_of_ble_eq_true rfl) (Nat.le_of_ble_eq_true rfl) (Nat.le_of_ble_eq_true rfl) rfl rfl ?_
  refine XGp.same rfl ?_
  exact XGp.vret _ rfl rfl rfl rfl
theorem g_m_figure (d : Nat) (u g : Nat → XE) (F : Nat → Int32) : XCall xM (d + 2) 125 [.ref 525, .int ((Int8.ofInt 7).toInt32)] (xhk u g F) (some (.int (0))) (xhk u g F) := by
  refine XCall.of (M := xm_X7_figure) rfl (Nat.le_of_ble_eq_true rfl) (XGp.of ?_)
  refine XGp.go 4 rfl ?_
  refine XGp.ifn (by decide) ?_
  refine XGp.go 2 rfl ?_
  refine XGp.putf rfl rfl (Nat.le_of_ble_eq_true rfl) (Nat.le_of_ble_eq_true rfl) (Nat.le_of_ble_eq_true rfl) rfl rfl ?_
  refine XGp.same rfl ?_
  refine XGp.go 3 rfl ?_
  refine XGp.ifn (by decide) ?_
  refine XGp.go 9 rfl ?_
  refine XGp.ifn (by decide) ?_
  refine XGp.go 3 rfl ?_
  refine XGp.putf rfl rfl (Nat.le_of_ble_eq_true rfl) (Nat.le_of_ble_eq_true rfl) (Nat.le_of_ble_eq_true rfl) rfl rfl ?_
  refine XGp.same rfl ?_
  refine XGp.go 1 rfl ?_
  exact XGp.iret _ rfl rfl .int rfl rfl rfl rfl
theorem g_m_clause (d : Nat) (u g : Nat → XE) : XCp (d + 3) 128 [.ref 525, .int ((140)), .int ((1))] (xhm u g) none (fun h => ∃ F, h = xhk u g F) := by
  refine XCp.of (M := xm_X7_clause) rfl (Nat.le_of_ble_eq_true rfl) ?_
  refine XGp.go 5 rfl ?_
  refine XGp.ifn (by decide) ?_
  refine XGp.go 6 rfl ?_
  refine XGp.iast rfl rfl (Nat.le_of_ble_eq_true rfl) (Nat.le_of_ble_eq_true rfl) (by decide) ?_
  refine XGp.same (congrArg (fun f => (Sum.inr (Sum.inl (0, _, f)) : XE)) (xupd0 _).symm) ?_
  refine XGp.go 5 rfl ?_
  refine XGp.ifn (by decide) ?_
  refine XGp.go 6 rfl ?_
  refine XGp.iast rfl rfl (Nat.le_of_ble_eq_true rfl) (Nat.le_of_ble_eq_true rfl) (by decide) ?_
  refine XGp.same (congrArg (fun f => (Sum.inr (Sum.inl (0, _, f)) : XE)) (xupd0 _).symm) ?_
  refine XGp.go 5 rfl ?_
  refine XGp.ifn (by decide) ?_
  refine XGp.go 6 rfl ?_
  refine XGp.iast rfl rfl (Nat.le_of_ble_eq_true rfl) (Nat.le_of_ble_eq_true rfl) (by decide) ?_
  refine XGp.same (congrArg (fun f => (Sum.inr (Sum.inl (0, _, f)) : XE)) (xupd0 _).symm) ?_
  refine XGp.go 5 rfl ?_
  refine XGp.ifn (by decide) ?_
  refine XGp.go 6 rfl ?_
  refine XGp.iast rfl rfl (Nat.le_of_ble_eq_true rfl) (Nat.le_of_ble_eq_true rfl) (by decide) ?_
  refine XGp.same (congrArg (fun f => (Sum.inr (Sum.inl (0, _, f)) : XE)) (xupd0 _).symm) ?_
  refine XGp.go 5 rfl ?_
  refine XGp.ifn (by decide) ?_
  refine XGp.go 6 rfl ?_
  refine XGp.iast rfl rfl (Nat.le_of_ble_eq_true rfl) (Nat.le_of_ble_eq_true rfl) (by decide) ?_
  refine XGp.same (congrArg (fun f => (Sum.inr (Sum.inl (0, _, f)) : XE)) (xupd0 _).symm) ?_
  refine XGp.go 5 rfl ?_
  refine XGp.ifn (by decide) ?_
  refine XGp.go 6 rfl ?_
  refine XGp.iast rfl rfl (Nat.le_of_ble_eq_true rfl) (Nat.le_of_ble_eq_true rfl) (by decide) ?_
  refine XGp.same (congrArg (fun f => (Sum.inr (Sum.inl (0, _, f)) : XE)) (xupd0 _).symm) ?_
  refine XGp.go 5 rfl ?_
  refine XGp.ifn (by decide) ?_
  refine XGp.go 6 rfl ?_
  refine XGp.iast rfl rfl (Nat.le_of_ble_eq_true rfl) (Nat.le_of_ble_eq_true rfl) (by decide) ?_
  refine XGp.same (congrArg (fun f => (Sum.inr (Sum.inl (0, _, f)) : XE)) (xupd0 _).symm) ?_
  refine XGp.go 5 rfl ?_
  refine XGp.ifn (by decide) ?_
  refine XGp.go 6 rfl ?_
  refine XGp.iast rfl rfl (Nat.le_of_ble_eq_true rfl) (Nat.le_of_ble_eq_true rfl) (by decide) ?_
  refine XGp.same (congrArg (fun f => (Sum.inr (Sum.inl (0, _, f)) : XE)) (xupd0 _).symm) ?_
  refine XGp.go 5 rfl ?_
  refine XGp.ifp (by decide) ?_
  refine XGp.go 2 rfl ?_
  refine XGp.ifn (by decide) ?_
  refine XGp.go 3 rfl ?_
  refine XGp.ifp (by decide) ?_
  refine XGp.go 1 rfl ?_
  refine XGp.callx [.ref 525] _ _ rfl xm_X7_here rfl rfl rfl rfl (fun _ => ⟨525, _, rfl, rfl, Nat.le_of_ble_eq_true rfl, Nat.le_of_ble_eq_true rfl⟩) (Nat.le_of_ble_eq_true rfl) (g_m_here _ u g) ?_
  refine XGp.go 5 rfl ?_
  refine XGp.ifp (by decide) ?_
  refine XGp.go 3 rfl ?_
  refine XGp.ifn (by decide) ?_
  refine XGp.go 3 rfl ?_
  refine XGp.ifn (by decide) ?_
  refine XGp.go 3 rfl ?_
  refine XGp.ifn (by decide) ?_
  refine XGp.go 2 rfl ?_
  refine XGp.putf rfl rfl (Nat.le_of_ble_eq_true rfl) (Nat.le_of_ble_eq_true rfl) (Nat.le_of_ble_eq_true rfl) rfl rfl ?_
  refine XGp.go 6 rfl ?_
  refine XGp.ifn (by decide) ?_
  refine XGp.go 3 rfl ?_
  refine XGp.putf rfl rfl (Nat.le_of_ble_eq_true rfl) (Nat.le_of_ble_eq_true rfl) (Nat.le_of_ble_eq_true rfl) rfl rfl ?_
  refine XGp.same rfl ?_
  refine XGp.go 8 rfl ?_
  refine XGp.ifn (by decide) ?_
  refine XGp.go 3 rfl ?_
  refine XGp.ifn (by decide) ?_
  refine XGp.go 1 rfl ?_
  refine XGp.iast rfl rfl (Nat.le_of_ble_eq_true rfl) (Nat.le_of_ble_eq_true rfl) (by decide) ?_
  refine XGp.go 7 rfl ?_
  refine XGp.callx [.ref 525, .int _] _ _ rfl xm_X7_figure rfl rfl rfl rfl (fun _ => ⟨525, _, rfl, rfl, Nat.le_of_ble_eq_true rfl, Nat.le_of_ble_eq_true rfl⟩) (Nat.le_of_ble_eq_true rfl) (g_m_figure _ u g _) ?_
  refine XGp.iast rfl rfl (Nat.le_of_ble_eq_true rfl) (Nat.le_of_ble_eq_true rfl) (by decide) ?_
  refine XGp.upup ?_
  refine XGp.go 2 rfl ?_
  refine XGp.callx [.ref 525, .int _] _ _ rfl xm_X7_must rfl rfl rfl rfl (fun _ => ⟨525, _, rfl, rfl, Nat.le_of_ble_eq_true rfl, Nat.le_of_ble_eq_true rfl⟩) (Nat.le_of_ble_eq_true rfl) (g_m_must _ u g _) ?_
  refine XGp.go 3 rfl ?_
  refine XGp.ifn (by decide) ?_
  refine XGp.go 3 rfl ?_
  refine XGp.ifn (by decide) ?_
  exact XGp.vret _ rfl rfl rfl ⟨_, rfl⟩
theorem f_m_grant (d : Nat) (u g : Nat → XE) : XCp (d + 5) 130 [.ref 525] (xhm u g) (some (.int (-10))) (fun _ => True) := by
  refine XCp.of (M := xm_X7_grant) rfl (Nat.le_of_ble_eq_true rfl) ?_
  refine XGp.go 4 rfl ?_
  refine XGp.top 0 (by simp [upd]) ?_
  refine XGp.go 2 rfl ?_
  refine XGp.ifn (by decide) ?_
  refine XGp.go 4 rfl ?_
  refine XGp.top 0 (by simp [upd]) ?_
  refine XGp.go 6 rfl ?_
  refine XGp.top 0 (by simp [upd]) ?_
  refine XGp.putf rfl rfl (Nat.le_of_ble_eq_true rfl) (Nat.le_of_ble_eq_true rfl) (Nat.le_of_ble_eq_true rfl) rfl rfl ?_
  refine XGp.same rfl ?_
  refine XGp.go 4 rfl ?_
  refine XGp.iast rfl rfl (Nat.le_of_ble_eq_true rfl) (Nat.le_of_ble_eq_true rfl) (by decide) ?_
  refine XGp.same (congrArg (fun f => (Sum.inr (Sum.inl (0, _, f)) : XE)) (xupd0 _).symm) ?_
  refine XGp.go 2 rfl ?_
  refine XGp.putf rfl rfl (Nat.le_of_ble_eq_true rfl) (Nat.le_of_ble_eq_true rfl) (Nat.le_of_ble_eq_true rfl) rfl rfl ?_
  refine XGp.same rfl ?_
  refine XGp.go 2 rfl ?_
  refine XGp.putf rfl rfl (Nat.le_of_ble_eq_true rfl) (Nat.le_of_ble_eq_true rfl) (Nat.le_of_ble_eq_true rfl) rfl rfl ?_
  refine XGp.same rfl ?_
  refine XGp.go 5 rfl ?_
  refine XGp.callx [.int _, .int _] _ _ rfl xm_X7_at rfl rfl rfl rfl (fun q => absurd rfl q) (Nat.le_of_ble_eq_true rfl) (k_mat _ _ _ _) ?_
  refine XGp.top 140 (by decide) ?_
  refine XGp.go 1 rfl ?_
  refine XGp.call [.ref 525, .int _, .int _] _ _ rfl xm_X7_clause rfl rfl rfl rfl (fun _ => ⟨525, _, rfl, rfl, Nat.le_of_ble_eq_true rfl, Nat.le_of_ble_eq_true rfl⟩) (Nat.le_of_ble_eq_true rfl) (g_m_clause _ u g) (fun h2 hp => ?_)
  obtain ⟨F, rfl⟩ := hp
  refine XGp.go 3 rfl ?_
  refine XGp.ifn (by decide) ?_
  refine XGp.go 3 rfl ?_
  refine XGp.ifn (by decide) ?_
  refine XGp.go 4 rfl ?_
  exact XGp.iret _ rfl rfl .int rfl rfl (by decide) trivial
theorem g_m_image_loop (d : Nat) (u g : Nat → XE) : ∀ (k n : Nat), n + k = 490 → XGp d xm_X7_image (2, [some (.ref 525), some (.int (nI n))], [], xhm u g) (some (.int 0)) (fun _ => True)
  | 0, n, hn => by
    have e : n = 490 := by omega
    subst e
    refine XGp.go 2 rfl ?_
    refine XGp.go 1 rfl ?_
    refine XGp.ifp (by decide) ?_
    refine XGp.go 2 rfl ?_
    refine XGp.putf rfl rfl (Nat.le_of_ble_eq_true rfl) (Nat.le_of_ble_eq_true rfl) (Nat.le_of_ble_eq_true rfl) rfl rfl ?_
    refine XGp.go 4 rfl ?_
    exact XGp.iret _ rfl rfl .int rfl rfl rfl trivial
  | k + 1, n, hn => by
    have hb : n < 2147483648 := by omega
    have hc : ¬ (nI n < 0 ∨ 490 ≤ (nI n).toNatClampNeg) := fun q => q.elim (xnI_lt0 hb) (fun z => by rw [xnI_nat hb] at z; omega)
    refine XGp.go 2 rfl ?_
    refine XGp.go 1 rfl ?_
    refine XGp.ifn (fun q => absurd ((xnI_ge (m := 490) (by decide) hb).mp q) (by omega)) ?_
    refine XGp.go 6 rfl ?_
    refine XGp.iald rfl (xia_i (f := fun _ => 0) rfl (Nat.le_of_ble_eq_true rfl) hc) ?_
    refine XGp.iast rfl rfl (Nat.le_of_ble_eq_true rfl) (Nat.le_of_ble_eq_true rfl) hc ?_
    refine XGp.same (congrArg (fun f => (Sum.inr (Sum.inl (0, _, f)) : XE)) (xupd0 _).symm) ?_
    refine XGp.go 2 rfl ?_
    have gg := g_m_image_loop d u g k (n + 1) (by omega)
    rw [← nI_1] at gg
    exact gg
theorem f_m_image (d : Nat) (u g : Nat → XE) : XCp (d + 5) 180 [.ref 525] (xhm u g) (some (.int 0)) (fun _ => True) := by
  refine XCp.of (M := xm_X7_image) rfl (Nat.le_of_ble_eq_true rfl) ?_
  refine XGp.go 2 rfl ?_
  exact g_m_image_loop _ u g 490 0 rfl
