/-! become as a whole, both ways; image and undo of the class -/
def bq_i : AWr := [(27, 0, 0), (28, 0, 7), (29, 0, 7), (27, 3, 3), (30, 0, 5), (31, 0, 5), (32, 0, 5), (27, 7, 7), (27, 9, 9), (27, 11, 11), (27, 13, 13), (34, 0, 79), (35, 0, 40), (36, 0, 19), (37, 0, 0), (38, 0, 23), (39, 0, 23)]
def bq_u : AWr := [(14, 0, 0), (15, 0, 7), (16, 0, 7), (14, 3, 3), (17, 0, 5), (18, 0, 5), (19, 0, 5), (14, 7, 7), (14, 9, 9), (14, 11, 11), (14, 13, 13), (21, 0, 79), (22, 0, 40), (23, 0, 19), (24, 0, 0), (25, 0, 23), (26, 0, 23)]
theorem bec_im {h : XH} (hI : AInv w_W h) (hP : PInv w_W w_P h []) : ∃ h2 : XH, XCall xM 3 54 [.ref 42, .ref 14] h none h2 ∧ AInv w_W h2 ∧ PInv w_W w_P h2 [] ∧ AFr w_W bq_i h h2 ∧ rd h2 42 0 = rd h 14 0 ∧ rd h2 42 3 = rd h 14 3 ∧ (∀ i, i < 8 → rd h2 43 i = rd h 15 i) ∧ (∀ i, i < 8 → rd h2 44 i = rd h 16 i) ∧ (∀ i, i < 6 → rd h2 45 i = rd h 17 i) ∧ (∀ i, i < 6 → rd h2 46 i = rd h 18 i) ∧ ∀ i, i < 6 → rd h2 47 i = rd h 19 i := by
  obtain ⟨A, iA, fA, ⟨e1, e2, e3, e4, e5, e6, e7⟩, k⟩ := bec_img hI none
  obtain ⟨B, gB, iB, pB, fB⟩ := br_i iA (PInv.out fA (by decide) (by decide) hP) (l2 := none) (fun v hv => by cases hv)
  refine ⟨B, XCall.of (M := xm_X5_become) rfl (Nat.le_of_ble_eq_true rfl) (k gB), iB, pB, (awin_ok fA (by decide +kernel)).trans (awin_ok fB (by decide +kernel)), ?_, ?_, fun i hi => ?_, fun i hi => ?_, fun i hi => ?_, fun i hi => ?_, fun i hi => ?_⟩
  · exact (rdF (b := 0) w_rg_42 (by decide) fB (by decide)).trans e1
  · exact (rdF (b := 3) w_rg_42 (by decide) fB (by decide)).trans e2
  · exact (rdF (b := i) w_rg_43 (by decide) fB (by unfold ahit bw_i; rfl)).trans (e3 i hi)
  · exact (rdF (b := i) w_rg_44 (by decide) fB (by unfold ahit bw_i; rfl)).trans (e4 i hi)
  · exact (rdF (b := i) w_rg_45 (by decide) fB (by unfold ahit bw_i; rfl)).trans (e5 i hi)
  · exact (rdF (b := i) w_rg_46 (by decide) fB (by unfold ahit bw_i; rfl)).trans (e6 i hi)
  · exact (rdF (b := i) w_rg_47 (by decide) fB (by unfold ahit bw_i; rfl)).trans (e7 i hi)
theorem bec_un {h : XH} (hI : AInv w_W h) (hP : PInv w_W w_P h []) : ∃ h2 : XH, XCall xM 3 54 [.ref 14, .ref 42] h none h2 ∧ AInv w_W h2 ∧ (PPr w_W w_P h2 [] ∧ QS (vw w_W h2)) ∧ AFr w_W bq_u h h2 ∧ rd h2 14 0 = rd h 42 0 ∧ rd h2 14 3 = rd h 42 3 ∧ (∀ i, i < 8 → rd h2 15 i = rd h 43 i) ∧ (∀ i, i < 8 → rd h2 16 i = rd h 44 i) ∧ (∀ i, i < 6 → rd h2 17 i = rd h 45 i) ∧ (∀ i, i < 6 → rd h2 18 i = rd h 46 i) ∧ ∀ i, i < 6 → rd h2 19 i = rd h 47 i := by
  obtain ⟨A, iA, fA, ⟨e1, e2, e3, e4, e5, e6, e7⟩, k⟩ := bec_und hI none
  obtain ⟨B, gB, iB, pB, fB⟩ := br_u iA p0 (l2 := none) (fun v hv => by cases hv)
  have fAll : AFr w_W bq_u h B := (awin_ok fA (by decide +kernel)).trans (awin_ok fB (by decide +kernel))
  refine ⟨B, XCall.of (M := xm_X5_become) rfl (Nat.le_of_ble_eq_true rfl) (k gB), iB, ⟨PPr.out fAll (by decide) hP.1, qs_fr fAll (by decide) (hP.2 rfl).1⟩, fAll, ?_, ?_, fun i hi => ?_, fun i hi => ?_, fun i hi => ?_, fun i hi => ?_, fun i hi => ?_⟩
  · exact (rdF (b := 0) w_rg_14 (by decide) fB (by decide)).trans e1
  · exact (rdF (b := 3) w_rg_14 (by decide) fB (by decide)).trans e2
  · exact (rdF (b := i) w_rg_15 (by decide) fB (by unfold ahit bw_u; rfl)).trans (e3 i hi)
  · exact (rdF (b := i) w_rg_16 (by decide) fB (by unfold ahit bw_u; rfl)).trans (e4 i hi)
  · exact (rdF (b := i) w_rg_17 (by decide) fB (by unfold ahit bw_u; rfl)).trans (e5 i hi)
  · exact (rdF (b := i) w_rg_18 (by decide) fB (by unfold ahit bw_u; rfl)).trans (e6 i hi)
  · exact (rdF (b := i) w_rg_19 (by decide) fB (by unfold ahit bw_u; rfl)).trans (e7 i hi)
theorem k13s : w_S 13 = (0, 6, 0, w_s13.2.2.2.1, []) := rfl
theorem k14s : w_S 14 = (0, 5, 0, w_s14.2.2.2.1, []) := rfl
theorem k27s : w_S 27 = (0, 5, 0, w_s27.2.2.2.1, []) := rfl
theorem r13_0 {h : XH} (hI : AInv w_W h) : rd h 13 0 = some (.ref 14) := rd_ref hI (k := 13) (j := 14) (by decide) w_rg_13 k13s rfl rfl w_rg_14 (by decide)
theorem r13_1 {h : XH} (hI : AInv w_W h) : rd h 13 1 = some (.ref 42) := rd_ref hI (k := 13) (j := 42) (by decide) w_rg_13 k13s rfl rfl w_rg_42 (by decide)
set_option maxRecDepth 100000 in
/-- image of the class -/
theorem cimage {h : XH} (hI : AInv w_W h) (hP : PInv w_W w_P h []) {x : Int32} (hx : rd h 14 0 = some (.int x)) : ∃ h2 : XH, XCall xM 11 86 [.ref 13] h (some (.int x)) h2 ∧ AInv w_W h2 ∧ PInv w_W w_P h2 [] ∧ AFr w_W ((13, 2, 2) :: bq_i) h h2 ∧ rd h2 13 2 = some (.int 1) ∧ rd h2 42 0 = rd h 14 0 ∧ rd h2 42 3 = rd h 14 3 ∧ (∀ i, i < 8 → rd h2 43 i = rd h 15 i) ∧ (∀ i, i < 8 → rd h2 44 i = rd h 16 i) ∧ (∀ i, i < 6 → rd h2 45 i = rd h 17 i) ∧ (∀ i, i < 6 → rd h2 46 i = rd h 18 i) ∧ ∀ i, i < 6 → rd h2 47 i = rd h 19 i := by
  obtain ⟨B, cB, iB, pB, fB, e1, e2, e3, e4, e5, e6, e7⟩ := bec_im hI hP
  obtain ⟨C, iC, fC, rC, gC⟩ := putr iB (k := 13) (b := 2) (s := avI 0 1) (by decide) (by decide) w_rg_13 k13s rfl (Int32.ofInt 1) (ga_of rfl ⟨by decide, by decide⟩) ⟨rfl, rfl⟩
  obtain ⟨f42, h42, -, -⟩ := w_obj hI (k := 42) (by decide) w_rg_42 k27s
  obtain ⟨f13, B13, -, -⟩ := w_obj iB (k := 13) (by decide) w_rg_13 k13s
  have hN : h.1 = 549 := hI.1
  have B0 : rd B 14 0 = some (.int x) := (rdF (b := 0) w_rg_14 (by decide) fB (by decide)).trans hx
  have C0 : rd C 14 0 = some (.int x) := (rdF (b := 0) w_rg_14 (by decide) fC (by decide)).trans B0
  refine ⟨C, XCall.of (M := xm_X6_image) rfl (Nat.le_of_ble_eq_true rfl) ?_, iC, PInv.out fC (by decide) (by decide) pB, (awin_ok fB (by decide +kernel)).trans (awin_ok fC (by decide +kernel)), rC, ?_, ?_, fun i hi => ?_, fun i hi => ?_, fun i hi => ?_, fun i hi => ?_, fun i hi => ?_⟩
  · refine XGo.go 1 rfl ?_
    refine XGo.getr rfl hI (by decide) (by decide) w_rg_13 k13s (by decide) (r13_1 hI) ?_
    refine XGo.go 1 rfl ?_
    refine XGo.getr rfl hI (by decide) (by decide) w_rg_13 k13s (by decide) (r13_0 hI) ?_
    refine XGo.call _ rfl xm_X5_become rfl rfl [.ref 42, .ref 14] [] rfl rfl (fun _ => ⟨42, f42, rfl, h42, by decide, by omega⟩) (Nat.le_of_ble_eq_true rfl) (XCall.up (by decide) cB) ?_
    refine XGo.go 2 rfl ?_
    refine gC rfl ?_
    refine XGo.go 1 rfl ?_
    refine XGo.getr rfl iC (by decide) (by decide) w_rg_13 k13s (by decide) (r13_0 iC) ?_
    refine XGo.getr rfl iC (by decide) (by decide) w_rg_14 k14s (by decide) C0 ?_
    exact XGo.iret _ rfl rfl .int rfl rfl
  · exact (rdF (b := 0) w_rg_42 (by decide) fC (by decide)).trans e1
  · exact (rdF (b := 3) w_rg_42 (by decide) fC (by decide)).trans e2
  · exact (rdF (b := i) w_rg_43 (by decide) fC (by unfold ahit; rfl)).trans (e3 i hi)
  · exact (rdF (b := i) w_rg_44 (by decide) fC (by unfold ahit; rfl)).trans (e4 i hi)
  · exact (rdF (b := i) w_rg_45 (by decide) fC (by unfold ahit; rfl)).trans (e5 i hi)
  · exact (rdF (b := i) w_rg_46 (by decide) fC (by unfold ahit; rfl)).trans (e6 i hi)
  · exact (rdF (b := i) w_rg_47 (by decide) fC (by unfold ahit; rfl)).trans (e7 i hi)
set_option maxRecDepth 100000 in
/-- undo of the class, where nothing is kept -/
theorem cundo0 {h : XH} (hI : AInv w_W h) (hk : rd h 13 2 = some (.int 0)) : XCall xM 11 87 [.ref 13] h (some (.int (Int8.ofInt (-3)).toInt32)) h := by
  refine XCall.of (M := xm_X6_undo) rfl (Nat.le_of_ble_eq_true rfl) ?_
  refine XGo.go 1 rfl ?_
  refine XGo.getr rfl hI (by decide) (by decide) w_rg_13 k13s (by decide) hk ?_
  refine XGo.go 1 rfl ?_
  refine XGo.ifp rfl ?_
  refine XGo.go 1 rfl ?_
  exact XGo.iret _ rfl rfl .int rfl rfl
/-- the world that is kept is as it must be -/
def KW (h : XH) : Prop := ∃ n m : Nat, (n ≤ 8 ∧ m ≤ 6) ∧ rd h 42 0 = some (.int (nI n)) ∧ rd h 42 3 = some (.int (nI m)) ∧ (∀ j, j < n → ∃ a : Int32, rd h 43 j = some (.int a) ∧ 0 ≤ a.toInt ∧ a.toInt ≤ 90) ∧ ∀ k, k < m → ∃ kd w y : Int32, rd h 45 k = some (.int kd) ∧ rd h 46 k = some (.int w) ∧ rd h 47 k = some (.int y) ∧ (0 ≤ w.toInt ∧ w.toInt ≤ 13) ∧ (kd = Int32.ofInt 3 → w.toInt ≤ 3) ∧ 1 ≤ y.toInt ∧ y.toInt ≤ 40
theorem KW.fr {h h1 : XH} (q : KW h) (e0 : rd h1 42 0 = rd h 42 0) (e5 : ∀ k, k < 8 → rd h1 43 k = rd h 43 k) (e3 : rd h1 42 3 = rd h 42 3) (e7 : ∀ k, k < 6 → rd h1 45 k = rd h 45 k) (e8 : ∀ k, k < 6 → rd h1 46 k = rd h 46 k) (e9 : ∀ k, k < 6 → rd h1 47 k = rd h 47 k) : KW h1 := by
  obtain ⟨n, m, ⟨hn, hm⟩, q0, q3, qa, q4⟩ := q
  refine ⟨n, m, ⟨hn, hm⟩, e0.trans q0, e3.trans q3, fun j hj => ?_, fun k hk => ?_⟩
  · obtain ⟨a, a1, a2⟩ := qa j hj
    exact ⟨a, (e5 j (by omega)).trans a1, a2⟩
  obtain ⟨kd, w, y, k1, k2, k3, k4⟩ := q4 k hk
  exact ⟨kd, w, y, (e7 k (by omega)).trans k1, (e8 k (by omega)).trans k2, (e9 k (by omega)).trans k3, k4⟩
theorem kw_copy {h h1 : XH} (q : QW (vw w_W h)) (e0 : rd h1 42 0 = rd h 14 0) (e5 : ∀ k, k < 8 → rd h1 43 k = rd h 15 k) (e3 : rd h1 42 3 = rd h 14 3) (e7 : ∀ k, k < 6 → rd h1 45 k = rd h 17 k) (e8 : ∀ k, k < 6 → rd h1 46 k = rd h 18 k) (e9 : ∀ k, k < 6 → rd h1 47 k = rd h 19 k) : KW h1 := by
  obtain ⟨n, m, ⟨hn, hm⟩, q0, q3, qa, q4⟩ := q
  rw [vw_14 (Or.inl rfl)] at q0
  rw [vw_14 (Or.inr rfl)] at q3
  refine ⟨n, m, ⟨hn, hm⟩, e0.trans q0, e3.trans q3, fun j hj => ?_, fun k hk => ?_⟩
  · obtain ⟨a, a1, a2⟩ := qa j hj
    rw [vw_wo (by decide) (by decide)] at a1
    exact ⟨a, (e5 j (by omega)).trans a1, a2⟩
  obtain ⟨kd, w, y, k1, k2, k3, k4⟩ := q4 k hk
  rw [vw_wo (by decide) (by decide)] at k1 k2 k3
  exact ⟨kd, w, y, (e7 k (by omega)).trans k1, (e8 k (by omega)).trans k2, (e9 k (by omega)).trans k3, k4⟩
theorem qw_kw {h h1 : XH} (q : KW h) (e0 : rd h1 14 0 = rd h 42 0) (e5 : ∀ k, k < 8 → rd h1 15 k = rd h 43 k) (e3 : rd h1 14 3 = rd h 42 3) (e7 : ∀ k, k < 6 → rd h1 17 k = rd h 45 k) (e8 : ∀ k, k < 6 → rd h1 18 k = rd h 46 k) (e9 : ∀ k, k < 6 → rd h1 19 k = rd h 47 k) : QW (vw w_W h1) := by
  obtain ⟨n, m, ⟨hn, hm⟩, q0, q3, qa, q4⟩ := q
  refine ⟨n, m, ⟨hn, hm⟩, by rw [vw_14 (Or.inl rfl)]; exact e0.trans q0, by rw [vw_14 (Or.inr rfl)]; exact e3.trans q3, fun j hj => ?_, fun k hk => ?_⟩
  · obtain ⟨a, a1, a2⟩ := qa j hj
    exact ⟨a, by rw [vw_wo (by decide) (by decide)]; exact (e5 j (by omega)).trans a1, a2⟩
  obtain ⟨kd, w, y, k1, k2, k3, k4⟩ := q4 k hk
  refine ⟨kd, w, y, ?_, ?_, ?_, k4⟩
  · rw [vw_wo (by decide) (by decide)]; exact (e7 k (by omega)).trans k1
  · rw [vw_wo (by decide) (by decide)]; exact (e8 k (by omega)).trans k2
  · rw [vw_wo (by decide) (by decide)]; exact (e9 k (by omega)).trans k3
set_option maxRecDepth 100000 in
/-- undo of the class -/
theorem cundo1 {h : XH} (hI : AInv w_W h) (hP : PInv w_W w_P h []) (hK : KW h) (hk : rd h 13 2 = some (.int 1)) {x : Int32} (hx : rd h 42 0 = some (.int x)) : ∃ h2 : XH, XCall xM 11 87 [.ref 13] h (some (.int x)) h2 ∧ AInv w_W h2 ∧ PInv w_W w_P h2 [] ∧ AFr w_W ((58, 0, 0) :: bq_u) h h2 ∧ rd h2 14 0 = rd h 42 0 ∧ rd h2 14 3 = rd h 42 3 ∧ (∀ i, i < 8 → rd h2 15 i = rd h 43 i) ∧ (∀ i, i < 8 → rd h2 16 i = rd h 44 i) ∧ (∀ i, i < 6 → rd h2 17 i = rd h 45 i) ∧ (∀ i, i < 6 → rd h2 18 i = rd h 46 i) ∧ ∀ i, i < 6 → rd h2 19 i = rd h 47 i := by
  obtain ⟨B, cB, iB, pB, fB, e1, e2, e3, e4, e5, e6, e7⟩ := bec_un hI hP
  obtain ⟨C, cC, iC, pC, fC⟩ := forget_ok B iB pB.1 pB.2 (qw_kw hK e1 e3 e2 e5 e6 e7)
  obtain ⟨f14, h14, -, -⟩ := w_obj hI (k := 14) (by decide) w_rg_14 k14s
  obtain ⟨f13, B13, -, -⟩ := w_obj iB (k := 13) (by decide) w_rg_13 k13s
  have hN : h.1 = 549 := hI.1
  have BN : B.1 = 549 := iB.1
  have C1 : rd C 14 0 = rd h 42 0 := (rdF (b := 0) w_rg_14 (by decide) fC (by decide)).trans e1
  refine ⟨C, XCall.of (M := xm_X6_undo) rfl (Nat.le_of_ble_eq_true rfl) ?_, iC, pC, (awin_ok fB (by decide +kernel)).trans (awin_ok fC (by decide +kernel)), C1, ?_, fun i hi => ?_, fun i hi => ?_, fun i hi => ?_, fun i hi => ?_, fun i hi => ?_⟩
  · refine XGo.go 1 rfl ?_
    refine XGo.getr rfl hI (by decide) (by decide) w_rg_13 k13s (by decide) hk ?_
    refine XGo.go 1 rfl ?_
    refine XGo.ifn (by decide) ?_
    refine XGo.go 1 rfl ?_
    refine XGo.getr rfl hI (by decide) (by decide) w_rg_13 k13s (by decide) (r13_0 hI) ?_
    refine XGo.go 1 rfl ?_
    refine XGo.getr rfl hI (by decide) (by decide) w_rg_13 k13s (by decide) (r13_1 hI) ?_
    refine XGo.call _ rfl xm_X5_become rfl rfl [.ref 14, .ref 42] [] rfl rfl (fun _ => ⟨14, f14, rfl, h14, by decide, by omega⟩) (Nat.le_of_ble_eq_true rfl) (XCall.up (by decide) cB) ?_
    refine XGo.go 1 rfl ?_
    refine XGo.call _ rfl xm_X6_forgetCourses rfl rfl [.ref 13] [] rfl rfl (fun _ => ⟨13, f13, rfl, B13, by decide, by omega⟩) (Nat.le_of_ble_eq_true rfl) (XCall.up (by decide) cC) ?_
    refine XGo.go 1 rfl ?_
    refine XGo.getr rfl iC (by decide) (by decide) w_rg_13 k13s (by decide) (r13_0 iC) ?_
    refine XGo.getr rfl iC (by decide) (by decide) w_rg_14 k14s (by decide) (C1.trans hx) ?_
    exact XGo.iret _ rfl rfl .int rfl rfl
  · exact (rdF (b := 3) w_rg_14 (by decide) fC (by decide)).trans e2
  · exact (rdF (b := i) w_rg_15 (by decide) fC (by unfold ahit; rfl)).trans (e3 i hi)
  · exact (rdF (b := i) w_rg_16 (by decide) fC (by unfold ahit; rfl)).trans (e4 i hi)
  · exact (rdF (b := i) w_rg_17 (by decide) fC (by unfold ahit; rfl)).trans (e5 i hi)
  · exact (rdF (b := i) w_rg_18 (by decide) fC (by unfold ahit; rfl)).trans (e6 i hi)
  · exact (rdF (b := i) w_rg_19 (by decide) fC (by unfold ahit; rfl)).trans (e7 i hi)
