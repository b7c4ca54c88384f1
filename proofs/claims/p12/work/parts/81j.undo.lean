/-! image and undo over grants, tape and row -/
theorem Cont.pre {h A h1 : XH} {a b : Nat} (c : Cont A h1 a b) (e7 : rd A b 7 = rd h b 7) (e9 : rd A b 9 = rd h b 9) (e11 : rd A b 11 = rd h b 11) (et : ∀ i, i < 80 → rd A (b + 7) i = rd h (b + 7) i) (er : ∀ i, i < 41 → rd A (b + 8) i = rd h (b + 8) i) (eg : ∀ g, g < 6 → rd A (b + 10 + 3 * g) 0 = rd h (b + 10 + 3 * g) 0 ∧ (∀ j, j < 24 → rd A (b + 10 + 3 * g + 1) j = rd h (b + 10 + 3 * g + 1) j) ∧ ∀ j, j < 24 → rd A (b + 10 + 3 * g + 2) j = rd h (b + 10 + 3 * g + 2) j) : Cont h h1 a b := by
  obtain ⟨⟨c7, c9, c11⟩, ct, cr, cg⟩ := c
  exact ⟨⟨c7.trans e7, c9.trans e9, c11.trans e11⟩, fun i hi => (ct i hi).trans (et i hi), fun i hi => (cr i hi).trans (er i hi), fun g hg => ⟨(cg g hg).1.trans (eg g hg).1, fun j hj => ((cg g hg).2.1 j hj).trans ((eg g hg).2.1 j hj), fun j hj => ((cg g hg).2.2 j hj).trans ((eg g hg).2.2 j hj)⟩⟩
theorem Cont.post {h h1 h2 : XH} {a b : Nat} (c : Cont h h1 a b) (e7 : rd h2 a 7 = rd h1 a 7) (e9 : rd h2 a 9 = rd h1 a 9) (e11 : rd h2 a 11 = rd h1 a 11) (et : ∀ i, i < 80 → rd h2 (a + 7) i = rd h1 (a + 7) i) (er : ∀ i, i < 41 → rd h2 (a + 8) i = rd h1 (a + 8) i) (eg : ∀ g, g < 6 → rd h2 (a + 10 + 3 * g) 0 = rd h1 (a + 10 + 3 * g) 0 ∧ (∀ j, j < 24 → rd h2 (a + 10 + 3 * g + 1) j = rd h1 (a + 10 + 3 * g + 1) j) ∧ ∀ j, j < 24 → rd h2 (a + 10 + 3 * g + 2) j = rd h1 (a + 10 + 3 * g + 2) j) : Cont h h2 a b := by
  obtain ⟨⟨c7, c9, c11⟩, ct, cr, cg⟩ := c
  exact ⟨⟨e7.trans c7, e9.trans c9, e11.trans c11⟩, fun i hi => (et i hi).trans (ct i hi), fun i hi => (er i hi).trans (cr i hi), fun g hg => ⟨(eg g hg).1.trans (cg g hg).1, fun j hj => ((eg g hg).2.1 j hj).trans ((cg g hg).2.1 j hj), fun j hj => ((eg g hg).2.2 j hj).trans ((cg g hg).2.2 j hj)⟩⟩
theorem rgg {g : Nat} (hg : g < 6) : (w_rg (24 + 3 * g) = 24 ∧ w_rg (24 + 3 * g + 1) = 25 ∧ w_rg (24 + 3 * g + 2) = 26) ∧ w_rg (52 + 3 * g) = 37 ∧ w_rg (52 + 3 * g + 1) = 38 ∧ w_rg (52 + 3 * g + 2) = 39 := by
  obtain ⟨⟨r1, r2, r3⟩, r4, r5, r6⟩ := w_rg_g ⟨g, hg⟩
  refine ⟨⟨r1, ?_, ?_⟩, r4, ?_, ?_⟩
  · rw [show 24 + 3 * g + 1 = 25 + 3 * g by omega]; exact r2
  · rw [show 24 + 3 * g + 2 = 26 + 3 * g by omega]; exact r3
  · rw [show 52 + 3 * g + 1 = 53 + 3 * g by omega]; exact r5
  · rw [show 52 + 3 * g + 2 = 54 + 3 * g by omega]; exact r6
theorem bec_im_c {h h2 : XH} (hI : AInv w_W h) (gS : GSt h) (c : XCall xM 3 54 [.ref 42, .ref 14] h none h2) : Cont h h2 42 14 := by
  obtain ⟨A, iA, fA, -, k⟩ := bec_img hI none
  have gA := gst_fr gS fA (by decide)
  obtain ⟨fa, ga, ta, ra, ca, ka, La, Na, wa⟩ := wc_42 iA gA
  obtain ⟨fb, gb, tb, rb, cb, kb, Lb, Nb, wb⟩ := wc_14 iA gA
  obtain ⟨H1, go, ct⟩ := bec_g 0 iA.1 (Or.inr ⟨rfl, rfl⟩) wa wb
  obtain ⟨-, e⟩ := XCall.det c (XCall.of (d := 2) (M := xm_X5_become) rfl (Nat.le_of_ble_eq_true rfl) (k go))
  subst e
  refine ct.pre (rdF (b := 7) w_rg_14 (by decide) fA (by decide)) (rdF (b := 9) w_rg_14 (by decide) fA (by decide)) (rdF (b := 11) w_rg_14 (by decide) fA (by decide)) (fun i _ => rdF (b := i) w_rg_x.2.1 (by decide) fA (by unfold ahit; rfl)) (fun i _ => rdF (b := i) w_rg_y.1.1 (by decide) fA (by unfold ahit; rfl)) fun g hg => ?_
  obtain ⟨⟨r1, r2, r3⟩, -⟩ := rgg hg
  exact ⟨rdF (b := 0) r1 (by omega) fA (by decide), fun j _ => rdF (b := j) r2 (by omega) fA (by unfold ahit; rfl), fun j _ => rdF (b := j) r3 (by omega) fA (by unfold ahit; rfl)⟩
theorem bec_un_c {h h2 : XH} (hI : AInv w_W h) (gS : GSt h) (c : XCall xM 3 54 [.ref 14, .ref 42] h none h2) : Cont h h2 14 42 := by
  obtain ⟨A, iA, fA, -, k⟩ := bec_und hI none
  have gA := gst_fr gS fA (by decide)
  obtain ⟨fa, ga, ta, ra, ca, ka, La, Na, wa⟩ := wc_14 iA gA
  obtain ⟨fb, gb, tb, rb, cb, kb, Lb, Nb, wb⟩ := wc_42 iA gA
  obtain ⟨H1, go, ct⟩ := bec_g 0 iA.1 (Or.inl ⟨rfl, rfl⟩) wa wb
  obtain ⟨-, e⟩ := XCall.det c (XCall.of (d := 2) (M := xm_X5_become) rfl (Nat.le_of_ble_eq_true rfl) (k go))
  subst e
  refine ct.pre (rdF (b := 7) w_rg_42 (by decide) fA (by decide)) (rdF (b := 9) w_rg_42 (by decide) fA (by decide)) (rdF (b := 11) w_rg_42 (by decide) fA (by decide)) (fun i _ => rdF (b := i) w_rg_x.2.2.2 (by decide) fA (by unfold ahit; rfl)) (fun i _ => rdF (b := i) w_rg_y.2.1 (by decide) fA (by unfold ahit; rfl)) fun g hg => ?_
  obtain ⟨-, r1, r2, r3⟩ := rgg hg
  exact ⟨rdF (b := 0) r1 (by omega) fA (by decide), fun j _ => rdF (b := j) r2 (by omega) fA (by unfold ahit; rfl), fun j _ => rdF (b := j) r3 (by omega) fA (by unfold ahit; rfl)⟩
set_option maxRecDepth 100000 in
theorem cimage_c {h h1 : XH} {v : Option Value} (hI : AInv w_W h) (hP : PInv w_W w_P h []) (gS : GSt h) {x : Int32} (hx : rd h 14 0 = some (.int x)) (c : XCall xM 11 86 [.ref 13] h v h1) : Cont h h1 42 14 := by
  obtain ⟨B, cB, iB, pB, fB, -⟩ := bec_im hI hP
  have ct := bec_im_c hI gS cB
  obtain ⟨C, iC, fC, rC, gC⟩ := putr iB (k := 13) (b := 2) (s := avI 0 1) (by decide) (by decide) w_rg_13 k13s rfl (Int32.ofInt 1) (ga_of rfl ⟨by decide, by decide⟩) ⟨rfl, rfl⟩
  obtain ⟨f42, h42, -, -⟩ := w_obj hI (k := 42) (by decide) w_rg_42 k27s
  obtain ⟨f13, B13, -, -⟩ := w_obj iB (k := 13) (by decide) w_rg_13 k13s
  have hN : h.1 = 549 := hI.1
  have B0 : rd B 14 0 = some (.int x) := (rdF (b := 0) w_rg_14 (by decide) fB (by decide)).trans hx
  have C0 : rd C 14 0 = some (.int x) := (rdF (b := 0) w_rg_14 (by decide) fC (by decide)).trans B0
  have cc : XCall xM 11 86 [.ref 13] h (some (.int x)) C := XCall.of (M := xm_X6_image) rfl (Nat.le_of_ble_eq_true rfl) (by
    refine XGo.go 1 rfl ?_
    refine XGo.getr rfl hI (by decide) (by decide) w_rg_13 k13s (by decide) (r13_1 hI) ?_
    refine XGo.go 1 rfl ?_
    refine XGo.getr rfl hI (by decide) (by decide) w_rg_13 k13s (by decide) (r13_0 hI) ?_
    refine XGo.call _ rfl xm_X5_become rfl rfl [.ref 42, .ref 14] [] rfl rfl (fun _ => ⟨42, f42, rfl, h42, by decide, by omega⟩) (Nat.le_of_ble_eq_true rfl) (XCall.up (by decide) cB) ?_
    refine XGo.go 2 rfl ?_
    refine gC rfl ?_
    refine XGo.go 1 rfl ?_
    refine XGo.getr rfl iC (by decide) (by decide) w_rg_13 k13s (by decide) (r13_0 iC) ?_
    refine XGo.getr rfl iC (by decide) (by decide) w_rg_14 k14s (by decide) C0 ?_
    exact XGo.iret _ rfl rfl .int rfl rfl)
  obtain ⟨-, e⟩ := XCall.det c cc
  subst e
  refine ct.post (rdF (b := 7) w_rg_42 (by decide) fC (by decide)) (rdF (b := 9) w_rg_42 (by decide) fC (by decide)) (rdF (b := 11) w_rg_42 (by decide) fC (by decide)) (fun i _ => rdF (b := i) w_rg_x.2.2.2 (by decide) fC (by unfold ahit; rfl)) (fun i _ => rdF (b := i) w_rg_y.2.1 (by decide) fC (by unfold ahit; rfl)) fun g hg => ?_
  obtain ⟨-, r1, r2, r3⟩ := rgg hg
  exact ⟨rdF (b := 0) r1 (by omega) fC (by decide), fun j _ => rdF (b := j) r2 (by omega) fC (by unfold ahit; rfl), fun j _ => rdF (b := j) r3 (by omega) fC (by unfold ahit; rfl)⟩
set_option maxRecDepth 100000 in
theorem cundo_c {h h1 : XH} {v : Option Value} (hI : AInv w_W h) (hP : PInv w_W w_P h []) (hK : KW h) (gS : GSt h) (hk : rd h 13 2 = some (.int 1)) {x : Int32} (hx : rd h 42 0 = some (.int x)) (c : XCall xM 11 87 [.ref 13] h v h1) : Cont h h1 14 42 := by
  obtain ⟨B, cB, iB, pB, fB, e1, e2, e3, e4, e5, e6, e7⟩ := bec_un hI hP
  have ct := bec_un_c hI gS cB
  obtain ⟨C, cC, iC, pC, fC⟩ := forget_ok B iB pB.1 pB.2 (qw_kw hK e1 e3 e2 e5 e6 e7)
  obtain ⟨f14, h14, -, -⟩ := w_obj hI (k := 14) (by decide) w_rg_14 k14s
  obtain ⟨f13, B13, -, -⟩ := w_obj iB (k := 13) (by decide) w_rg_13 k13s
  have hN : h.1 = 549 := hI.1
  have BN : B.1 = 549 := iB.1
  have C1 : rd C 14 0 = rd h 42 0 := (rdF (b := 0) w_rg_14 (by decide) fC (by decide)).trans e1
  have cc : XCall xM 11 87 [.ref 13] h (some (.int x)) C := XCall.of (M := xm_X6_undo) rfl (Nat.le_of_ble_eq_true rfl) (by
    refine XGo.go 1 rfl ?_
    refine XGo.getr rfl hI (by decide) (by decide) w_rg_13 k13s (by decide) hk ?_
    refine XGo.go 1 rfl ?_
    refine XGo.ifn (by decide) ?_
    refine XGo.go 1 rfl ?_
    refine XGo.getr rfl hI (by decide) (by decide) w_rg_13 k13s (by decide) (r13_0 hI) ?_
    refine XGo.go 1 rfl ?_
    refine XGo.getr rfl hI (by decide) (by decide) w_rg_13 k13s (by decide) (r13_1 hI) ?_
    refine XGo.call _ rfl xm_X5_become rfl rfl [.ref 14, .ref 42] [] rfl rfl (fun _ => ⟨14, f14, rfl, h14, by decide, by omega⟩) (Nat.le_of_ble_eq_true rfl) (XCall.up (by decide) cB) ?_
    refine XGo.go 1 rfl ?_
    refine XGo.call _ rfl xm_X6_forgetCourses rfl rfl [.ref 13] [] rfl rfl (fun _ => ⟨13, f13, rfl, B13, by decide, by omega⟩) (Nat.le_of_ble_eq_true rfl) (XCall.up (by decide) cC) ?_
    refine XGo.go 1 rfl ?_
    refine XGo.getr rfl iC (by decide) (by decide) w_rg_13 k13s (by decide) (r13_0 iC) ?_
    refine XGo.getr rfl iC (by decide) (by decide) w_rg_14 k14s (by decide) (C1.trans hx) ?_
    exact XGo.iret _ rfl rfl .int rfl rfl)
  obtain ⟨-, e⟩ := XCall.det c cc
  subst e
  refine ct.post (rdF (b := 7) w_rg_14 (by decide) fC (by decide)) (rdF (b := 9) w_rg_14 (by decide) fC (by decide)) (rdF (b := 11) w_rg_14 (by decide) fC (by decide)) (fun i _ => rdF (b := i) w_rg_x.2.1 (by decide) fC (by unfold ahit; rfl)) (fun i _ => rdF (b := i) w_rg_y.1.1 (by decide) fC (by unfold ahit; rfl)) fun g hg => ?_
  obtain ⟨⟨r1, r2, r3⟩, -⟩ := rgg hg
  exact ⟨rdF (b := 0) r1 (by omega) fC (by decide), fun j _ => rdF (b := j) r2 (by omega) fC (by unfold ahit; rfl), fun j _ => rdF (b := j) r3 (by omega) fC (by unfold ahit; rfl)⟩
theorem G_image {L : Nat} {xs : Nat → Int32} {h : XH} (hI : INVg L xs h) : ∃ (v : Int32) (h1 h2 : XH), XCall xM 11 86 [.ref 13] h (some (.int v)) h1 ∧ AInv w_W h1 ∧ h1.2.2 1 = h.2.2 1 ∧ XCall xM 11 180 [.ref 536] h1 (some (.int v)) h2 ∧ INVg L xs h2 := by
  obtain ⟨hw, gW, gK, gS, gB⟩ := hI
  obtain ⟨v, h1, h2, c1, j1, x1, c2, i2⟩ := V_image hw
  obtain ⟨⟨n, m, hn, hm, a0, a1, -⟩, -⟩ := id hw.2.2.2.1
  obtain ⟨h1', cc, -, -, fC, -⟩ := cimage hw.1 hw.2.1 a0
  obtain ⟨-, e1⟩ := XCall.det c1 cc
  subst e1
  have ct := cimage_c hw.1 hw.2.1 gS a0 c1
  obtain ⟨w, h2', f, f1, d1, -, -, d3, d4, d5, d6, -⟩ := im_ok 10 j1
  obtain ⟨-, e2⟩ := XCall.det c2 d1
  subst e2
  have e1 := XCall.ext _ _ _ _ _ _ c1 (by rw [hw.1.1]; decide)
  have e2 := XCall.ext _ _ _ _ _ _ c2 (by rw [j1.1]; decide)
  have gW1 := grW_fr gW j1 fC (by decide +kernel)
  have gS1 := gst_fr gS fC (by decide +kernel)
  have q537 : ∀ j, rd h1 537 j = rd h 537 j := fun j => rdF (b := j) w_rg_537 (by decide) fC (by unfold ahit bq_i; rfl)
  have s : ∀ z b, ¬ z = 538 → ¬ z = 536 → rd h2 z b = rd h1 z b := fun z b h1 h2 => rd_same (d6 z h1 h2) b
  obtain ⟨f2, hf2⟩ := row_rd i2.1 (Or.inl rfl)
  obtain ⟨f3, hf3⟩ := row_rd i2.1 (Or.inr rfl)
  refine ⟨v, h1, h2, c1, j1, x1, c2, i2, gW1.fr hf2 (fun j _ => s 537 j (by decide) (by decide)) (s 14 7 (by decide) (by decide)) (s 14 9 (by decide) (by decide)) (fun i _ => s 21 i (by decide) (by decide)) (fun g hg => ⟨s _ 0 (by omega) (by omega), fun j _ => s _ j (by omega) (by omega), fun j _ => s _ j (by omega) (by omega)⟩), gW.fr hf3 (fun j hj => ?_) ((s 42 7 (by decide) (by decide)).trans ct.1.1) ((s 42 9 (by decide) (by decide)).trans ct.1.2.1) (fun i hi => (s 49 i (by decide) (by decide)).trans (ct.2.1 i hi)) (fun g hg => ⟨(s _ 0 (by omega) (by omega)).trans (ct.2.2.2 g hg).1, fun j hj => (s _ j (by omega) (by omega)).trans ((ct.2.2.2 g hg).2.1 j hj), fun j hj => (s _ j (by omega) (by omega)).trans ((ct.2.2.2 g hg).2.2 j hj)⟩), fun g hg => ?_, sb0_ext (sb0_ext gB e1) e2⟩
  · have hj2 : j < 490 := by unfold gcell at hj; omega
    rw [rd_row d4 hj2, d5 j hj2, ← rd_row d3 hj2]
    exact q537 j
  · obtain ⟨⟨a, b, c⟩, d, e, f⟩ := gS1 g hg
    exact ⟨⟨(s _ _ (by omega) (by omega)).trans a, (s _ _ (by omega) (by omega)).trans b, (s _ _ (by omega) (by omega)).trans c⟩, (s _ _ (by omega) (by omega)).trans d, (s _ _ (by omega) (by omega)).trans e, (s _ _ (by omega) (by omega)).trans f⟩
/-! undo, person, maybe over grants, tape and row -/
theorem hx01 {h : XH} (i1 : AInv w_W h) {y : Int32} (r6 : rd h 536 3 = some (.int y)) : y = 0 ∨ y = 1 := by
  obtain ⟨fs, g1, -, -, -⟩ := w_mod i1
  obtain ⟨z, hz, y1, y2⟩ := w_has i1 g1
  have e : rd h 536 3 = some (.int z) := by unfold rd; rw [g1]; exact hz
  rw [r6] at e
  cases e
  exact i32_01 y1 y2
theorem G_undo {L : Nat} {xs : Nat → Int32} {h : XH} (hI : INVg L xs h) : ∃ (v : Int32) (h1 h2 : XH), XCall xM 11 87 [.ref 13] h (some (.int v)) h1 ∧ AInv w_W h1 ∧ h1.2.2 1 = h.2.2 1 ∧ XCall xM 11 181 [.ref 536] h1 (some (.int v)) h2 ∧ INVg L xs h2 := by
  obtain ⟨hw, gW, gK, gS, gB⟩ := id hI
  obtain ⟨v, h1, h2, c1, j1, x1, c2, i2⟩ := V_undo hw
  obtain ⟨-, ⟨n, m, hn, hm, a0, -⟩, hK, y, r5, r6⟩ := id hw.2.2.2.1
  rcases hx01 hw.1 r6 with rfl | rfl
  · have cc := cundo0 hw.1 r5
    obtain ⟨-, e1⟩ := XCall.det c1 cc
    subst e1
    rcases un_ok 10 j1 with ⟨-, g2⟩ | ⟨w, h3, f, f1, -, -, -, g3, -⟩
    · obtain ⟨-, e2⟩ := XCall.det c2 g2
      subst e2
      exact ⟨v, h2, h2, c1, j1, x1, c2, hI⟩
    · rw [r6] at g3
      cases g3
  · obtain ⟨h1', cc, -, -, fC, -⟩ := cundo1 hw.1 hw.2.1 hK r5 a0
    obtain ⟨-, e1⟩ := XCall.det c1 cc
    subst e1
    have ct := cundo_c hw.1 hw.2.1 hK gS r5 a0 c1
    have f536 : rd h1 536 3 = some (.int 1) := (rdF (b := 3) w_rg_536 (by decide) fC (by decide)).trans r6
    rcases un_ok 10 j1 with ⟨g1, -⟩ | ⟨w, h2', f, f1, d1, -, -, -, d3, d4, d5, d6⟩
    · rw [f536] at g1
      cases g1
    · obtain ⟨-, e2⟩ := XCall.det c2 d1
      subst e2
      have e1 := XCall.ext _ _ _ _ _ _ c1 (by rw [hw.1.1]; decide)
      have e2 := XCall.ext _ _ _ _ _ _ c2 (by rw [j1.1]; decide)
      have gK1 := grK_fr gK j1 fC (by decide +kernel)
      have gS1 := gst_fr gS fC (by decide +kernel)
      have q538 : ∀ j, rd h1 538 j = rd h 538 j := fun j => rd538 fC (by decide) j
      have s : ∀ z b, ¬ z = 537 → rd h2 z b = rd h1 z b := fun z b h1 => rd_same (d6 z h1) b
      obtain ⟨f2, hf2⟩ := row_rd i2.1 (Or.inl rfl)
      obtain ⟨f3, hf3⟩ := row_rd i2.1 (Or.inr rfl)
      refine ⟨v, h1, h2, c1, j1, x1, c2, i2, gK.fr hf2 (fun j hj => ?_) ((s 14 7 (by decide)).trans ct.1.1) ((s 14 9 (by decide)).trans ct.1.2.1) (fun i hi => (s 21 i (by decide)).trans (ct.2.1 i hi)) (fun g hg => ⟨(s _ 0 (by omega)).trans (ct.2.2.2 g hg).1, fun j hj => (s _ j (by omega)).trans ((ct.2.2.2 g hg).2.1 j hj), fun j hj => (s _ j (by omega)).trans ((ct.2.2.2 g hg).2.2 j hj)⟩), gK1.fr hf3 (fun j _ => s 538 j (by decide)) (s 42 7 (by decide)) (s 42 9 (by decide)) (fun i _ => s 49 i (by decide)) (fun g hg => ⟨s _ 0 (by omega), fun j _ => s _ j (by omega), fun j _ => s _ j (by omega)⟩), fun g hg => ?_, sb0_ext (sb0_ext gB e1) e2⟩
      · have hj2 : j < 490 := by unfold gcell at hj; omega
        rw [rd_row d4 hj2, d5 j hj2, ← rd_row d3 hj2]
        exact q538 j
      · obtain ⟨⟨a, b, c⟩, d, e, f⟩ := gS1 g hg
        exact ⟨⟨(s _ _ (by omega)).trans a, (s _ _ (by omega)).trans b, (s _ _ (by omega)).trans c⟩, (s _ _ (by omega)).trans d, (s _ _ (by omega)).trans e, (s _ _ (by omega)).trans f⟩
theorem INVg.next {L : Nat} {xs : Nat → Int32} {h h2 : XH} {ws : AWr} (hI : INVg L xs h) (i2 : INVw L xs h2) (kF : AFr w_W ws h h2) (hs : (ssafe ws && (gsafeW ws && gsafeK ws)) = true) (e : ∀ j, j < 13 → h2.2.2 j = h.2.2 j) : INVg L xs h2 := by
  obtain ⟨hw, gW, gK, gS, gB⟩ := hI
  rw [Bool.and_eq_true, Bool.and_eq_true] at hs
  exact ⟨i2, grW_fr gW i2.1 kF hs.2.1, grK_fr gK i2.1 kF hs.2.2, gst_fr gS kF hs.1, sb0_ext gB e⟩
theorem ext2 {h h1 h2 : XH} {d e i k : Nat} {as bs : List Value} {v w : Option Value} (hI : AInv w_W h) (j1 : AInv w_W h1) (c1 : XCall xM d i as h v h1) (c2 : XCall xM e k bs h1 w h2) : ∀ j, j < 13 → h2.2.2 j = h.2.2 j := fun j hj => (XCall.ext _ _ _ _ _ _ c2 (by rw [j1.1]; decide) j hj).trans (XCall.ext _ _ _ _ _ _ c1 (by rw [hI.1]; decide) j hj)
theorem G_person (a p : Int32) {L : Nat} {xs : Nat → Int32} {h : XH} (hI : INVg L xs h) : ∃ (v : Int32) (h1 h2 : XH), XCall xM 11 62 [.ref 13, .int a, .int p] h (some (.int v)) h1 ∧ AInv w_W h1 ∧ h1.2.2 1 = h.2.2 1 ∧ XCall xM 11 113 [.ref 536, .int a, .int p] h1 (some (.int v)) h2 ∧ INVg L xs h2 := by
  have hw := hI.1
  obtain ⟨v, h1, h2, c1, j1, x1, c2, i2⟩ := V_person a p hw
  obtain ⟨⟨n, m, hn, hm, a0, a1, a2, a3, b1, -⟩, -⟩ := id hw.2.2.2.1
  obtain ⟨v', h1', h2', d1, -, -, d2, -, hc⟩ := both_person a p hw.both hn a0 a1 b1
  obtain ⟨-, e1⟩ := XCall.det c1 d1
  subst e1
  obtain ⟨-, e2⟩ := XCall.det c2 d2
  subst e2
  refine ⟨v, h1, h2, c1, j1, x1, c2, ?_⟩
  rcases hc with e | ⟨-, -, kF, -⟩
  · rw [e]
    exact hI
  · exact hI.next i2 kF (by decide +kernel) (ext2 hw.1 j1 c1 c2)
theorem G_maybe (a w y : Int32) {L : Nat} {xs : Nat → Int32} {h : XH} (hI : INVg L xs h) : ∃ (v : Int32) (h1 h2 : XH), XCall xM 11 63 [.ref 13, .int a, .int w, .int y] h (some (.int v)) h1 ∧ AInv w_W h1 ∧ h1.2.2 1 = h.2.2 1 ∧ XCall xM 11 114 [.ref 536, .int a, .int w, .int y] h1 (some (.int v)) h2 ∧ INVg L xs h2 := by
  have hw := hI.1
  obtain ⟨v, h1, h2, c1, j1, x1, c2, i2⟩ := V_maybe a w y hw
  obtain ⟨⟨n, m, hn, hm, a0, a1, a2, a3, b1, b2, b3, -⟩, -⟩ := id hw.2.2.2.1
  obtain ⟨v', h1', h2', d1, -, -, d2, -, hc⟩ := both_maybe a w y hw.both hn hm a0 a1 a2 a3 b3
  obtain ⟨-, e1⟩ := XCall.det c1 d1
  subst e1
  obtain ⟨-, e2⟩ := XCall.det c2 d2
  subst e2
  refine ⟨v, h1, h2, c1, j1, x1, c2, ?_⟩
  rcases hc with e | ⟨-, -, kF, -⟩
  · rw [e]
    exact hI
  · exact hI.next i2 kF (by decide +kernel) (ext2 hw.1 j1 c1 c2)
/-- the new object's grants and tape -/
def g0E : XH → Nat → Bool := fun h g => (match rd h 20 g with
  | some (.ref j) => Nat.beq j (24 + 3 * g)
  | _ => false) && ((match rd h (24 + 3 * g) 1 with
  | some (.ref j) => Nat.beq j (25 + 3 * g)
  | _ => false) && ((match rd h (24 + 3 * g) 2 with
  | some (.ref j) => Nat.beq j (26 + 3 * g)
  | _ => false) && ((match rd h 48 g with
  | some (.ref j) => Nat.beq j (52 + 3 * g)
  | _ => false) && ((match rd h (52 + 3 * g) 1 with
  | some (.ref j) => Nat.beq j (53 + 3 * g)
  | _ => false) && (match rd h (52 + 3 * g) 2 with
  | some (.ref j) => Nat.beq j (54 + 3 * g)
  | _ => false)))))
theorem g0_ok : ((List.range 6).all fun g => g0E (xh0 (xg 0 (fun _ => 0) true)) g) = true := by decide +kernel
theorem INVg_0 (L : Nat) (xs : Nat → Int32) (fl : Bool) : INVg L xs (xh0 (xg L xs fl)) := by
  have e1 : (xh0 (xg L xs fl)).2.2 537 = .inr (.inl (0, 490, fun _ => 0)) := rfl
  have e2 : (xh0 (xg L xs fl)).2.2 538 = .inr (.inl (0, 490, fun _ => 0)) := rfl
  refine ⟨INVw_0 L xs fl, ⟨fun _ => 0, 0, 0, fun j hj => rd_row e1 hj, ⟨by decide, by decide⟩, ⟨rfl, rfl⟩, ⟨rfl, rfl⟩, fun i hi => absurd hi (by omega), fun g hg => absurd hg (by omega)⟩, ⟨fun _ => 0, 0, 0, fun j hj => rd_row e2 hj, ⟨by decide, by decide⟩, ⟨rfl, rfl⟩, ⟨rfl, rfl⟩, fun i hi => absurd hi (by omega), fun g hg => absurd hg (by omega)⟩, fun g hg => ?_, fun w h1 h2 => ?_⟩
  · have q := List.all_eq_true.mp g0_ok g (List.mem_range.mpr hg)
    unfold g0E at q
    simp only [Bool.and_eq_true] at q
    obtain ⟨q1, q2, q3, q4, q5, q6⟩ := q
    have t : ∀ k b, 13 ≤ k → k < 549 → rd (xh0 (xg L xs fl)) k b = rd (xh0 (xg 0 (fun _ => 0) true)) k b := fun k b h1 h2 => xh0_13 L xs fl h1 h2 b
    exact ⟨⟨(t _ _ (by omega) (by omega)).trans (rd_ref_of q1), (t _ _ (by omega) (by omega)).trans (rd_ref_of q2), (t _ _ (by omega) (by omega)).trans (rd_ref_of q3)⟩, (t _ _ (by omega) (by omega)).trans (rd_ref_of q4), (t _ _ (by omega) (by omega)).trans (rd_ref_of q5), (t _ _ (by omega) (by omega)).trans (rd_ref_of q6)⟩
  · match w, h1, h2 with
    | 2, _, _ => exact ⟨rfl, rfl⟩
    | 3, _, _ => exact ⟨rfl, rfl⟩
    | 4, _, _ => exact ⟨rfl, rfl⟩
    | 5, _, _ => exact ⟨rfl, rfl⟩
    | 6, _, _ => exact ⟨rfl, rfl⟩
    | 0, h1, _ => exact absurd h1 (by decide)
    | 1, h1, _ => exact absurd h1 (by decide)
    | w + 7, _, h2 => exact absurd h2 (by omega)
