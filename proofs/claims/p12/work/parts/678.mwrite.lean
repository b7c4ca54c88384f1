/-! maybe: its writing, on both sides -/
/-- an int put into a row of ints by LifeGrants.put -/
theorem put_ok (d : Nat) {h : XH} (hI : AInv w_W h) {k r n b : Nat} (hk : k < 549) (h13 : 13 ≤ k) (hr : w_rg k = r) (hS : w_S r = (1, 0, n, [], [(n, -2147483648, 2147483647)])) (hn : n < 2147483648) (hb : b < n) (x : Int32) : ∃ h1 : XH, XCall xM (d + 1) 103 [.ref k, .int (nI b), .int x] h none h1 ∧ AInv w_W h1 ∧ AFr w_W [(r, (b : Int), (b : Int))] h h1 ∧ rd h1 k b = some (.int x) ∧ ∀ j, j < n → ¬ j = b → rd h1 k j = rd h k j := by
  obtain ⟨f, hf⟩ := w_ints hI hk hr hS
  have hN : h.1 = 549 := hI.1
  obtain ⟨iA, fA⟩ := w_iput hI (b := b) (x := x) hk hr hS hf hb
  have q := k_put_in d h k n f (nI b) x hf (by omega) h13 hn (fun q => q.elim (xnI_lt0 (by omega)) (fun z => by rw [xnI_nat (by omega)] at z; omega))
  rw [xnI_nat (by omega)] at q
  have e : (xup h k (.inr (.inl (0, n, upd f b x)))).2.2 k = .inr (.inl (0, n, upd f b x)) := xup_eq _ _ _
  refine ⟨_, q, iA, fA, ?_, fun j hj hne => ?_⟩
  · rw [rd_ints e hb, upd_at]
  · rw [rd_ints e hj, rd_ints hf hj, upd_ne hne]
theorem AFr.one {h h1 : XH} {ws : AWr} {r b : Nat} {lo hi : Int} (a : AFr w_W [(r, (b : Int), (b : Int))] h h1) (hm : (r, lo, hi) ∈ ws) (h1' : lo ≤ (b : Int)) (h2 : (b : Int) ≤ hi) : AFr w_W ws h h1 := a.mono fun w hw => ⟨(r, lo, hi), hm, by rw [List.mem_singleton.mp hw], by rw [List.mem_singleton.mp hw]; exact h1', by rw [List.mem_singleton.mp hw]; exact h2⟩
def mw_c : AWr := [(14, 3, 3), (17, 0, 5), (18, 0, 5), (19, 0, 5), (58, 0, 0)]
theorem r14_4 {h : XH} (hI : AInv w_W h) : rd h 14 4 = some (.ref 17) := rd_ref hI (k := 14) (j := 17) (by decide) w_rg_14 k14s rfl rfl w_rg_17 (by decide)
theorem r14_5 {h : XH} (hI : AInv w_W h) : rd h 14 5 = some (.ref 18) := rd_ref hI (k := 14) (j := 18) (by decide) w_rg_14 k14s rfl rfl w_rg_18 (by decide)
theorem r14_6 {h : XH} (hI : AInv w_W h) : rd h 14 6 = some (.ref 19) := rd_ref hI (k := 14) (j := 19) (by decide) w_rg_14 k14s rfl rfl w_rg_19 (by decide)
set_option maxRecDepth 100000 in
theorem cmgood (hfc : CFC) {h : XH} (hI : AInv w_W h) (hP : PInv w_W w_P h []) {m : Nat} (hm : m < 6) (h3 : rd h 14 3 = some (.int (nI m))) (a w y : Int32) (hwy : (0 ≤ w.toInt ∧ w.toInt ≤ 13) ∧ (a = Int32.ofInt 3 → w.toInt ≤ 3) ∧ 1 ≤ y.toInt ∧ y.toInt ≤ 40) : ∃ h1, XGo 8 xm_X6_maybe (81, [some (.ref 13), some (.int a), some (.int w), some (.int y)], [], h) (some (.int (nI m))) h1 ∧ AInv w_W h1 ∧ PInv w_W w_P h1 [] ∧ AFr w_W mw_c h h1 ∧ rd h1 14 3 = some (.int (nI (m + 1))) ∧ (∀ i, i < 6 → rd h1 17 i = if i = m then some (.int a) else rd h 17 i) ∧ (∀ i, i < 6 → rd h1 18 i = if i = m then some (.int w) else rd h 18 i) ∧ ∀ i, i < 6 → rd h1 19 i = if i = m then some (.int y) else rd h 19 i := by
  obtain ⟨A, cA, iA, fA, rA, oA⟩ := put_ok 7 hI (k := 17) (b := m) (by decide) (by decide) w_rg_17 (show w_S 17 = (1, 0, 6, [], [(6, -2147483648, 2147483647)]) from rfl) (by decide) hm a
  obtain ⟨B, cB, iB, fB, rB, oB⟩ := put_ok 7 iA (k := 18) (b := m) (by decide) (by decide) w_rg_18 (show w_S 18 = (1, 0, 6, [], [(6, -2147483648, 2147483647)]) from rfl) (by decide) hm w
  obtain ⟨C, cC, iC, fC, rC, oC⟩ := put_ok 7 iB (k := 19) (b := m) (by decide) (by decide) w_rg_19 (show w_S 19 = (1, 0, 6, [], [(6, -2147483648, 2147483647)]) from rfl) (by decide) hm y
  have A3 : rd A 14 3 = some (.int (nI m)) := (rdF (b := 3) w_rg_14 (by decide) fA (by unfold ahit; rfl)).trans h3
  have B3 : rd B 14 3 = some (.int (nI m)) := (rdF (b := 3) w_rg_14 (by decide) fB (by unfold ahit; rfl)).trans A3
  have C3 : rd C 14 3 = some (.int (nI m)) := (rdF (b := 3) w_rg_14 (by decide) fC (by unfold ahit; rfl)).trans B3
  obtain ⟨D, iD, fD, rD, gD⟩ := putr iC (k := 14) (b := 3) (s := avT) (by decide) (by decide) w_rg_14 k14s rfl (nI m + Int32.ofInt 1) (ga_of rfl (gi_T _)) ⟨rfl, rfl⟩
  have fABCD : AFr w_W mw_c h D := (((fA.one (ws := mw_c) (lo := 0) (hi := 5) (by decide) (by omega) (by omega)).trans (fB.one (lo := 0) (hi := 5) (by decide) (by omega) (by omega))).trans (fC.one (lo := 0) (hi := 5) (by decide) (by omega) (by omega))).trans (fD.one (lo := 3) (hi := 3) (by decide) (by omega) (by omega))
  have d7 : ∀ i, i < 6 → rd D 17 i = if i = m then some (.int a) else rd h 17 i := fun i hi => by
    refine ((rdF (b := i) w_rg_17 (by decide) fD (by unfold ahit; rfl)).trans ((rdF (b := i) w_rg_17 (by decide) fC (by unfold ahit; rfl)).trans (rdF (b := i) w_rg_17 (by decide) fB (by unfold ahit; rfl)))).trans ?_
    by_cases hin : i = m
    · rw [if_pos hin, hin, rA]
    · rw [if_neg hin, oA i hi hin]
  have d8 : ∀ i, i < 6 → rd D 18 i = if i = m then some (.int w) else rd h 18 i := fun i hi => by
    refine ((rdF (b := i) w_rg_18 (by decide) fD (by unfold ahit; rfl)).trans (rdF (b := i) w_rg_18 (by decide) fC (by unfold ahit; rfl))).trans ?_
    by_cases hin : i = m
    · rw [if_pos hin, hin, rB]
    · rw [if_neg hin, oB i hi hin]
      exact rdF (b := i) w_rg_18 (by decide) fA (by unfold ahit; rfl)
  have d9 : ∀ i, i < 6 → rd D 19 i = if i = m then some (.int y) else rd h 19 i := fun i hi => by
    refine (rdF (b := i) w_rg_19 (by decide) fD (by unfold ahit; rfl)).trans ?_
    by_cases hin : i = m
    · rw [if_pos hin, hin, rC]
    · rw [if_neg hin, oC i hi hin]
      exact (rdF (b := i) w_rg_19 (by decide) fB (by unfold ahit; rfl)).trans (rdF (b := i) w_rg_19 (by decide) fA (by unfold ahit; rfl))
  have wD : QW (vw w_W D) := qw_m (hP.2 rfl).2.1 hm h3 (rdF (b := 0) w_rg_14 (by decide) fABCD (by decide)) (fun j _ => rdF (b := j) w_rg_15 (by decide) fABCD (by unfold ahit mw_c; rfl)) (by rw [rD, show nI m + Int32.ofInt 1 = nI (m + 1) from nI_1 m]) d7 d8 d9 hwy
  obtain ⟨E, e1, iE, pE, fE⟩ := hfc D iD (PPr.out fABCD (by decide) hP.1) (qs_fr fABCD (by decide) (hP.2 rfl).1) wD
  obtain ⟨f13, D13, -, -⟩ := w_obj iD (k := 13) (by decide) w_rg_13 k13s
  have DN : D.1 = 549 := iD.1
  have rE : rd E 14 3 = some (.int (nI m + Int32.ofInt 1)) := (rdF (b := 3) w_rg_14 (by decide) fE (by decide)).trans rD
  refine ⟨E, ?_, iE, pE, fABCD.trans (fE.mono fun w hw => ⟨(58, 0, 0), by decide, by rw [List.mem_singleton.mp hw], by rw [List.mem_singleton.mp hw]; exact Int.le_refl _, by rw [List.mem_singleton.mp hw]; exact Int.le_refl _⟩), by rw [rE, show nI m + Int32.ofInt 1 = nI (m + 1) from nI_1 m], fun i hi => ?_, fun i hi => ?_, fun i hi => ?_⟩
  · refine XGo.go 1 rfl ?_
    refine XGo.getr rfl hI (by decide) (by decide) w_rg_13 k13s (by decide) (r13_0 hI) ?_
    refine XGo.getr rfl hI (by decide) (by decide) w_rg_14 k14s (by decide) (r14_4 hI) ?_
    refine XGo.go 1 rfl ?_
    refine XGo.getr rfl hI (by decide) (by decide) w_rg_13 k13s (by decide) (r13_0 hI) ?_
    refine XGo.getr rfl hI (by decide) (by decide) w_rg_14 k14s (by decide) h3 ?_
    refine XGo.go 1 rfl ?_
    refine XGo.call _ rfl xm_X6_put rfl rfl [.ref 17, .int (nI m), .int a] [] rfl rfl (fun z => absurd rfl z) (Nat.le_of_ble_eq_true rfl) cA ?_
    refine XGo.go 1 rfl ?_
    refine XGo.getr rfl iA (by decide) (by decide) w_rg_13 k13s (by decide) (r13_0 iA) ?_
    refine XGo.getr rfl iA (by decide) (by decide) w_rg_14 k14s (by decide) (r14_5 iA) ?_
    refine XGo.go 1 rfl ?_
    refine XGo.getr rfl iA (by decide) (by decide) w_rg_13 k13s (by decide) (r13_0 iA) ?_
    refine XGo.getr rfl iA (by decide) (by decide) w_rg_14 k14s (by decide) A3 ?_
    refine XGo.go 1 rfl ?_
    refine XGo.call _ rfl xm_X6_put rfl rfl [.ref 18, .int (nI m), .int w] [] rfl rfl (fun z => absurd rfl z) (Nat.le_of_ble_eq_true rfl) cB ?_
    refine XGo.go 1 rfl ?_
    refine XGo.getr rfl iB (by decide) (by decide) w_rg_13 k13s (by decide) (r13_0 iB) ?_
    refine XGo.getr rfl iB (by decide) (by decide) w_rg_14 k14s (by decide) (r14_6 iB) ?_
    refine XGo.go 1 rfl ?_
    refine XGo.getr rfl iB (by decide) (by decide) w_rg_13 k13s (by decide) (r13_0 iB) ?_
    refine XGo.getr rfl iB (by decide) (by decide) w_rg_14 k14s (by decide) B3 ?_
    refine XGo.go 1 rfl ?_
    refine XGo.call _ rfl xm_X6_put rfl rfl [.ref 19, .int (nI m), .int y] [] rfl rfl (fun z => absurd rfl z) (Nat.le_of_ble_eq_true rfl) cC ?_
    refine XGo.go 1 rfl ?_
    refine XGo.getr rfl iC (by decide) (by decide) w_rg_13 k13s (by decide) (r13_0 iC) ?_
    refine XGo.go 1 rfl ?_
    refine XGo.getr rfl iC (by decide) (by decide) w_rg_14 k14s (by decide) C3 ?_
    refine XGo.go 2 rfl ?_
    show XGo _ _ (_, _, [.int (nI m + Int32.ofInt 1), .ref 14], _) _ _
    refine gD rfl ?_
    refine XGo.go 1 rfl ?_
    refine XGo.call _ rfl xm_X6_forgetCourses rfl rfl [.ref 13] [] rfl rfl (fun _ => ⟨13, f13, rfl, D13, by decide, by omega⟩) (Nat.le_of_ble_eq_true rfl) (XCall.up (by decide) e1) ?_
    refine XGo.go 1 rfl ?_
    refine XGo.getr rfl iE (by decide) (by decide) w_rg_13 k13s (by decide) (r13_0 iE) ?_
    refine XGo.getr rfl iE (by decide) (by decide) w_rg_14 k14s (by decide) rE ?_
    refine XGo.go 2 rfl ?_
    show XGo _ _ (_, _, [.int (nI m + Int32.ofInt 1 - Int32.ofInt 1)], _) _ _
    rw [nI_pm (by omega)]
    exact XGo.iret _ rfl rfl .int rfl rfl
  · exact (rdF (b := i) w_rg_17 (by decide) fE (by unfold ahit; rfl)).trans (d7 i hi)
  · exact (rdF (b := i) w_rg_18 (by decide) fE (by unfold ahit; rfl)).trans (d8 i hi)
  · exact (rdF (b := i) w_rg_19 (by decide) fE (by unfold ahit; rfl)).trans (d9 i hi)
