/-! two grants: both sides' runs; how both, clash and same begin -/
theorem r13_5 {h : XH} (hI : AInv w_W h) : rd h 13 5 = some (.ref 75) := rd_ref hI (by decide) w_rg_13 k13S (b := 5) rfl rfl w_rg_rb.1 (by decide)
/-- what goBoth leaves -/
abbrev RunC (h1 : XH) (f : Nat → Int32) (n m : Nat) (co : Int32) (g nc g2 nc2 : Nat) : Prop :=
  (∃ c r b hv : Int32, h1.2.2 71 = .inl (4, [.ref 72, .ref 73, .ref 74, .int c, .int r, .int b, .int hv])) ∧
  (∃ ho : Nat → Int32, h1.2.2 72 = .inr (.inl (0, 41, ho)) ∧ ∀ j, j < 41 → ho j = hsX f n m co g nc j) ∧
  (∃ c r b hv : Int32, h1.2.2 75 = .inl (4, [.ref 76, .ref 77, .ref 78, .int c, .int r, .int b, .int hv])) ∧
  (∃ ho : Nat → Int32, h1.2.2 76 = .inr (.inl (0, 41, ho)) ∧ ∀ j, j < 41 → ho j = hsX f n m co g2 nc2 j)
set_option maxRecDepth 100000 in
theorem G_cboth {L : Nat} {xs : Nat → Int32} {h : XH} (hI : INVg L xs h) {fw : List Value} {G T : Nat} {f : Nat → Int32} {n m : Nat} (hf : h.2.2 537 = .inr (.inl (0, 490, f))) (W : RW f n m) (hH : GH h fw G T) (hG : G ≤ 6) {g nc g2 nc2 : Nat} (hg : g < G) (hnc : 1 ≤ nc ∧ nc ≤ 6) {Lt Nt : Nat → Int32} (hCG : CG h (24 + 3 * g) (nI nc) Lt Nt) (hC : CI f g Lt Nt nc) (hg2 : g2 < G) (hnc2 : 1 ≤ nc2 ∧ nc2 ≤ 6) {Lt2 Nt2 : Nat → Int32} (hCG2 : CG h (24 + 3 * g2) (nI nc2) Lt2 Nt2) (hC2 : CI f g2 Lt2 Nt2 nc2) {c : Int32} (c0 : 0 ≤ c.toInt) (c63 : c.toInt ≤ 63) :
    ∃ h1 : XH, XCall xM 7 98 [.ref 13, .int (nI g), .int (nI g2), .int c] h none h1 ∧ INVg L xs h1 ∧ RunC h1 f n m c g nc g2 nc2 ∧ ∀ z, (z < 71 ∨ (78 < z ∧ z < 88) ∨ 535 < z) → h1.2.2 z = h.2.2 z := by
  have hN := hH.N
  obtain ⟨⟨r1, -, -⟩, -⟩ := w_rg_g ⟨g2, by omega⟩
  obtain ⟨k, h1, h2, cC, ⟨fs71, e71, l71⟩, cR, hI2, ⟨o71, o72, -, -⟩, oth⟩ := G_crun hI hf W (show g < 6 by omega) hnc hCG hC c0 c63
  have hf2 : h2.2.2 537 = .inr (.inl (0, 490, f)) := (oth 537 (by omega)).trans hf
  obtain ⟨k', h3, hk', cC3, hI3, oC3, hL3⟩ := G_course hI2 hf2 W c0 c63
  have hCG3 : CG h3 (24 + 3 * g2) (nI nc2) Lt2 Nt2 := ⟨(oC3 _ (by omega)).trans ((oth _ (by omega)).trans hCG2.1), (oC3 _ (by omega)).trans ((oth _ (by omega)).trans hCG2.2.1), (oC3 _ (by omega)).trans ((oth _ (by omega)).trans hCG2.2.2)⟩
  obtain ⟨h4, cR4, hI4, R4⟩ := G_runb h_182 rfl rfl rfl (by decide +kernel) (by decide +kernel) hI3 hk' W hL3 hCG3 (by omega) (by omega) r1 hnc2 hC2
  obtain ⟨c7, r7, b7, v7, ho7, cl7, bg7, h75, -⟩ := run_ofb hI3.1.1
  obtain ⟨fs, h13, -, -, -⟩ := w_lg hI.1.1
  obtain ⟨fs2, h132, -, -, -⟩ := w_lg hI2.1.1
  have hN2 : h2.1 = 549 := hI2.1.1.1
  have hN3 : h3.1 = 549 := hI3.1.1.1
  have k71 : ∀ z, 71 ≤ z → z ≤ 74 → h4.2.2 z = h2.2.2 z := fun z z1 z2 => (R4.oth z (by omega)).trans (oC3 z (by omega))
  obtain ⟨c8, r8, b8, v8, o71⟩ := o71
  obtain ⟨ho8, o72, e72⟩ := o72
  refine ⟨h4, XCall.of (M := xm_X6_goBoth) rfl (Nat.le_of_ble_eq_true rfl) ?_, hI4, ⟨⟨c8, r8, b8, v8, (k71 71 (by decide) (by decide)).trans o71⟩, ⟨ho8, (k71 72 (by decide) (by decide)).trans o72, e72⟩, R4.o, R4.ho⟩, fun z hz => (R4.oth z (by omega)).trans ((oC3 z (by omega)).trans (oth z (by omega)))⟩
  refine XGo.go 1 rfl ?_
  refine XGo.getr rfl hI.1.1 (by decide) (by decide) w_rg_13 k13s (by decide) (r13_0 hI.1.1) ?_
  refine XGo.go 1 rfl ?_
  refine XGo.call _ rfl xm_X5_grantAt rfl rfl [.ref 14, .int (nI g)] [] rfl rfl (fun _ => ⟨14, _, rfl, hH.o14, by decide, by omega⟩) (Nat.le_of_ble_eq_true rfl) (k_gAt 5 hH hg hG) ?_
  refine XGo.go 2 rfl ?_
  refine XGo.getr rfl hI.1.1 (by decide) (by decide) w_rg_13 k13s (by decide) (r13_0 hI.1.1) ?_
  refine XGo.go 1 rfl ?_
  refine XGo.call _ rfl xm_X5_grantAt rfl rfl [.ref 14, .int (nI g2)] [] rfl rfl (fun _ => ⟨14, _, rfl, hH.o14, by decide, by omega⟩) (Nat.le_of_ble_eq_true rfl) (k_gAt 5 hH hg2 hG) ?_
  refine XGo.go 6 rfl ?_
  refine XGo.getr rfl hI.1.1 (by decide) (by decide) w_rg_13 k13s (by decide) (r13_4 hI.1.1) ?_
  refine XGo.go 3 rfl ?_
  refine XGo.call _ rfl xm_X6_courseOf rfl rfl [.ref 13, .int c] [.ref (24 + 3 * g), .ref 71] rfl rfl (fun _ => ⟨13, fs, rfl, h13, by decide, by omega⟩) (Nat.le_of_ble_eq_true rfl) (XCall.up (by decide) cC) ?_
  refine XGo.call _ rfl xm_X4_go rfl rfl [.ref 71, .ref (24 + 3 * g), .ref (88 + 7 * k)] [] rfl rfl (fun _ => ⟨71, _, rfl, e71, by decide, l71⟩) (Nat.le_of_ble_eq_true rfl) (XCall.up (by decide) cR) ?_
  refine XGo.go 1 rfl ?_
  refine XGo.getr rfl hI2.1.1 (by decide) (by decide) w_rg_13 k13s (by decide) (r13_5 hI2.1.1) ?_
  refine XGo.go 3 rfl ?_
  refine XGo.call _ rfl xm_X6_courseOf rfl rfl [.ref 13, .int c] [.ref (24 + 3 * g2), .ref 75] rfl rfl (fun _ => ⟨13, fs2, rfl, h132, by decide, by omega⟩) (Nat.le_of_ble_eq_true rfl) (XCall.up (by decide) cC3) ?_
  refine XGo.call _ rfl xm_X4_go rfl rfl [.ref 75, .ref (24 + 3 * g2), .ref (88 + 7 * k')] [] rfl rfl (fun _ => ⟨75, _, rfl, h75, by decide, by omega⟩) (Nat.le_of_ble_eq_true rfl) (XCall.up (by decide) cR4) ?_
  exact XGo.vret _ rfl rfl rfl
theorem w_rg_547 : w_rg 547 = 76 := by decide +kernel
set_option maxRecDepth 100000 in
/-- two runs of the model -/
theorem M_both {h : XH} {f : Nat → Int32} (hB : MBk h f) {a47 : Nat → Int32} (h47 : h.2.2 547 = .inr (.inl (0, 41, a47))) {n m : Nat} (W : RW f n m) {g nc g2 nc2 : Nat} (hg : g < 6) (hnc : 1 ≤ nc ∧ nc ≤ 6) (hfn : f (130 + g) = nI nc) {Lt Nt : Nat → Int32} (hC : CI f g Lt Nt nc) (hg2 : g2 < 6) (hnc2 : 1 ≤ nc2 ∧ nc2 ≤ 6) (hfn2 : f (130 + g2) = nI nc2) {Lt2 Nt2 : Nat → Int32} (hC2 : CI f g2 Lt2 Nt2 nc2) (co : Int32) :
    ∃ h1 : XH, XCall xM 8 164 [.ref 536, .int (nI g), .int (nI g2), .int co] h none h1 ∧ MBk h1 f ∧ (∃ fs : Nat → Int32, h1.2.2 547 = .inr (.inl (0, 41, fs)) ∧ ∀ j, j < 41 → fs j = hsX f n m co g nc j) ∧ (∃ ho : Nat → Int32, h1.2.2 543 = .inr (.inl (0, 41, ho)) ∧ ∀ j, j < 41 → ho j = hsX f n m co g2 nc2 j) ∧ ∀ z, z < 536 → h1.2.2 z = h.2.2 z := by
  obtain ⟨hN, hS, ⟨e, o36⟩, hf, -⟩ := id hB
  obtain ⟨A, cA, hBA, -, ⟨ho, o43, eho⟩, -, -, othA⟩ := M_goes hB W hg hnc hfn hC co
  obtain ⟨hNA, hSA, ⟨eA, oA36⟩, hfA, ⟨s, s0, s1, s2, s3⟩, ⟨a3, e3⟩, ⟨a4, e4⟩, ⟨a5, e5⟩⟩ := id hBA
  have A47 : A.2.2 547 = .inr (.inl (0, 41, a47)) := (othA 547 (by decide) (by decide)).trans h47
  have put : ∀ fs : Nat → Int32, MBk (xup A 547 (.inr (.inl (0, 41, fs)))) f := fun fs => ⟨hNA, hSA, ⟨eA, (xup_ne _ _ (by decide)).trans oA36⟩, (xup_ne _ _ (by decide)).trans hfA, ⟨s, (xup_ne _ _ (by decide)).trans s0, (xup_ne _ _ (by decide)).trans s1, (xup_ne _ _ (by decide)).trans s2, (xup_ne _ _ (by decide)).trans s3⟩, ⟨a3, (xup_ne _ _ (by decide)).trans e3⟩, ⟨a4, (xup_ne _ _ (by decide)).trans e4⟩, ⟨a5, (xup_ne _ _ (by decide)).trans e5⟩⟩
  have nxt : ∀ fs : Nat → Int32, (∀ j, j < 41 → fs j = ho j) → ∃ h1 : XH, XGo 7 xm_X7_goesBoth (36, [some (.ref 536), some (.int (nI g)), some (.int (nI g2)), some (.int co), some (.int (nI 41))], [], xup A 547 (.inr (.inl (0, 41, fs)))) none h1 ∧ MBk h1 f ∧ (∃ fs : Nat → Int32, h1.2.2 547 = .inr (.inl (0, 41, fs)) ∧ ∀ j, j < 41 → fs j = hsX f n m co g nc j) ∧ (∃ ho : Nat → Int32, h1.2.2 543 = .inr (.inl (0, 41, ho)) ∧ ∀ j, j < 41 → ho j = hsX f n m co g2 nc2 j) ∧ ∀ z, z < 536 → h1.2.2 z = A.2.2 z := fun fs hfs => by
    obtain ⟨hNB, -, ⟨eB, oB36⟩, -⟩ := id (put fs)
    obtain ⟨C, cC, hBC, -, ⟨ho2, o432, eho2⟩, -, -, othC⟩ := M_goes (put fs) W hg2 hnc2 hfn2 hC2 co
    refine ⟨C, ?_, hBC, ⟨fs, (othC 547 (by decide) (by decide)).trans (xup_eq _ _ _), fun j hj => (hfs j hj).trans (eho j hj)⟩, ⟨ho2, o432, eho2⟩, fun z hz => (othC z (by omega) (by omega)).trans (xup_ne _ _ (by omega))⟩
    refine XGo.go 3 rfl ?_
    refine XGo.call _ rfl xm_X7_goes rfl rfl [.ref 536, .int (nI g2), .int co] [] rfl rfl (fun _ => ⟨536, _, rfl, oB36, by decide, by omega⟩) (Nat.le_of_ble_eq_true rfl) cC ?_
    exact XGo.vret _ rfl rfl rfl
  -- the copy's contents beyond its end never matter: the array that stands at the end
  have all : ∀ (q k : Nat) (fs : Nat → Int32), k + q = 41 → (∀ j, j < k → fs j = ho j) → ∃ h1 : XH, XGo 7 xm_X7_goesBoth (9, [some (.ref 536), some (.int (nI g)), some (.int (nI g2)), some (.int co), some (.int (nI k))], [], xup A 547 (.inr (.inl (0, 41, fs)))) none h1 ∧ MBk h1 f ∧ (∃ fs : Nat → Int32, h1.2.2 547 = .inr (.inl (0, 41, fs)) ∧ ∀ j, j < 41 → fs j = hsX f n m co g nc j) ∧ (∃ ho : Nat → Int32, h1.2.2 543 = .inr (.inl (0, 41, ho)) ∧ ∀ j, j < 41 → ho j = hsX f n m co g2 nc2 j) ∧ ∀ z, z < 536 → h1.2.2 z = A.2.2 z := by
    intro q
    induction q with
    | zero =>
      intro k fs hk hF
      have hk : k = 41 := by omega
      subst hk
      obtain ⟨h1, c1, r⟩ := nxt fs hF
      refine ⟨h1, ?_, r⟩
      refine XGo.go 3 rfl ?_
      exact XGo.ifp (by decide) c1
    | succ q ih =>
      intro k fs hk hF
      have BN : (xup A 547 (.inr (.inl (0, 41, fs)))).1 = 549 := hNA
      have B36 : (xup A 547 (.inr (.inl (0, 41, fs)))).2.2 536 = .inl (7, mO eA) := (xup_ne _ _ (by decide)).trans oA36
      have B43 : (xup A 547 (.inr (.inl (0, 41, fs)))).2.2 543 = .inr (.inl (0, 41, ho)) := (xup_ne _ _ (by decide)).trans o43
      have B47 : (xup A 547 (.inr (.inl (0, 41, fs)))).2.2 547 = .inr (.inl (0, 41, fs)) := xup_eq _ _ _
      obtain ⟨h1, c1, r⟩ := ih (k + 1) (upd fs k (ho k)) (by omega) (fun j hj => by
        by_cases e : j = k
        · rw [e, upd_at]
        · rw [upd_ne e]
          exact hF j (by omega))
      refine ⟨h1, ?_, r⟩
      refine XGo.go 3 rfl ?_
      refine XGo.ifn (fun z => absurd ((xnI_ge (m := 41) (by decide) (by omega)).mp z) (by omega)) ?_
      refine XGo.go 1 rfl ?_
      refine XGo.getf rfl (xfd_o B36 (xlt BN (by decide)) (by decide) rfl) ?_
      refine XGo.go 2 rfl ?_
      refine XGo.getf rfl (xfd_o B36 (xlt BN (by decide)) (by decide) rfl) ?_
      refine XGo.go 1 rfl ?_
      refine XGo.iald rfl (ia_nI B43 (xlt BN (by decide)) (show k < 41 by omega) (by decide)) ?_
      refine XGo.iast rfl B47 (xlt BN (by decide)) (by decide) (ca_nI (show k < 41 by omega) (by decide)) ?_
      rw [xnI_nat (by omega), xup_up]
      rw [← show nI k + Int32.ofInt 1 = nI (k + 1) from nI_1 k] at c1
      exact XGo.go 2 rfl c1
  obtain ⟨h1, c1, hB1, r1, r2, o1⟩ := all 41 0 a47 rfl (fun j hj => absurd hj (Nat.not_lt_zero _))
  rw [xup_sm A47] at c1
  refine ⟨h1, XCall.of (M := xm_X7_goesBoth) rfl (Nat.le_of_ble_eq_true rfl) ?_, hB1, r1, r2, fun z hz => (o1 z hz).trans (othA z (by omega) (by omega))⟩
  refine XGo.go 3 rfl ?_
  refine XGo.call _ rfl xm_X7_goes rfl rfl [.ref 536, .int (nI g), .int co] [] rfl rfl (fun _ => ⟨536, _, rfl, o36, by decide, by omega⟩) (Nat.le_of_ble_eq_true rfl) cA ?_
  exact XGo.go 2 rfl c1
section TW
variable {h : XH} {fw : List Value} {G T : Nat} {f : Nat → Int32}
theorem cboth_1 (d : Nat) (hI : AInv w_W h) (hH : GH h fw G T) (hG : G ≤ 6) {a b c y : Int32} (ha : ¬ (0 ≤ a.toInt ∧ a.toInt < (G : Int))) : XCall xM (d + 2) 80 [.ref 13, .int a, .int b, .int c, .int y] h (some (.int m1)) h := by
  have hN := hH.N
  refine XCall.of (M := xm_X6_both) rfl (Nat.le_of_ble_eq_true rfl) ?_
  refine XGo.go 1 rfl ?_
  refine XGo.getr rfl hI (by decide) (by decide) w_rg_13 k13s (by decide) (r13_0 hI) ?_
  refine XGo.go 1 rfl ?_
  refine XGo.call _ rfl xm_X5_grantAt rfl rfl [.ref 14, .int a] [] rfl rfl (fun _ => ⟨14, _, rfl, hH.o14, by decide, by omega⟩) (Nat.le_of_ble_eq_true rfl) (k_gNo d hH hG ha) ?_
  refine XGo.go 2 rfl ?_
  exact XGo.iret _ rfl rfl .int rfl rfl
theorem cboth_2 (d : Nat) (hI : AInv w_W h) (hH : GH h fw G T) (hG : G ≤ 6) {g : Nat} {b c y : Int32} (ha : g < G) (hb : ¬ (0 ≤ b.toInt ∧ b.toInt < (G : Int))) : XCall xM (d + 2) 80 [.ref 13, .int (nI g), .int b, .int c, .int y] h (some (.int m1)) h := by
  have hN := hH.N
  refine XCall.of (M := xm_X6_both) rfl (Nat.le_of_ble_eq_true rfl) ?_
  refine XGo.go 1 rfl ?_
  refine XGo.getr rfl hI (by decide) (by decide) w_rg_13 k13s (by decide) (r13_0 hI) ?_
  refine XGo.go 1 rfl ?_
  refine XGo.call _ rfl xm_X5_grantAt rfl rfl [.ref 14, .int (nI g)] [] rfl rfl (fun _ => ⟨14, _, rfl, hH.o14, by decide, by omega⟩) (Nat.le_of_ble_eq_true rfl) (k_gAt d hH ha hG) ?_
  refine XGo.go 2 rfl ?_
  refine XGo.getr rfl hI (by decide) (by decide) w_rg_13 k13s (by decide) (r13_0 hI) ?_
  refine XGo.go 1 rfl ?_
  refine XGo.call _ rfl xm_X5_grantAt rfl rfl [.ref 14, .int b] [] rfl rfl (fun _ => ⟨14, _, rfl, hH.o14, by decide, by omega⟩) (Nat.le_of_ble_eq_true rfl) (k_gNo d hH hG hb) ?_
  refine XGo.go 2 rfl ?_
  exact XGo.iret _ rfl rfl .int rfl rfl
theorem cboth_3 (d : Nat) (hI : AInv w_W h) (hH : GH h fw G T) (hG : G ≤ 6) {g g2 : Nat} {c y : Int32} (ha : g < G) (hb : g2 < G) {v : Option Value} {hend : XH} (k : XGo (d + 1) xm_X6_both (24, [some (.ref 13), some (.int (nI g)), some (.int (nI g2)), some (.int c), some (.int y), none], [], h) v hend) : XCall xM (d + 2) 80 [.ref 13, .int (nI g), .int (nI g2), .int c, .int y] h v hend := by
  have hN := hH.N
  refine XCall.of (M := xm_X6_both) rfl (Nat.le_of_ble_eq_true rfl) ?_
  refine XGo.go 1 rfl ?_
  refine XGo.getr rfl hI (by decide) (by decide) w_rg_13 k13s (by decide) (r13_0 hI) ?_
  refine XGo.go 1 rfl ?_
  refine XGo.call _ rfl xm_X5_grantAt rfl rfl [.ref 14, .int (nI g)] [] rfl rfl (fun _ => ⟨14, _, rfl, hH.o14, by decide, by omega⟩) (Nat.le_of_ble_eq_true rfl) (k_gAt d hH ha hG) ?_
  refine XGo.go 2 rfl ?_
  refine XGo.getr rfl hI (by decide) (by decide) w_rg_13 k13s (by decide) (r13_0 hI) ?_
  refine XGo.go 1 rfl ?_
  refine XGo.call _ rfl xm_X5_grantAt rfl rfl [.ref 14, .int (nI g2)] [] rfl rfl (fun _ => ⟨14, _, rfl, hH.o14, by decide, by omega⟩) (Nat.le_of_ble_eq_true rfl) (k_gAt d hH hb hG) ?_
  exact XGo.go 1 rfl k
set_option maxRecDepth 100000 in
theorem mboth_1 (d : Nat) (hB : MBk h f) (hG : G ≤ 6) (f2 : f 2 = nI G) {a b c y : Int32} (ha : ¬ (0 ≤ a.toInt ∧ a.toInt < (G : Int))) : XCall xM (d + 3) 165 [.ref 536, .int a, .int b, .int c, .int y] h (some (.int m1)) h := by
  obtain ⟨hN, hS, ⟨e, o36⟩, hf, -⟩ := id hB
  have q := k_isGr d hB hG f2 a
  rw [if_neg ha] at q
  refine XCall.of (M := xm_X7_both) rfl (Nat.le_of_ble_eq_true rfl) ?_
  refine XGo.go 2 rfl ?_
  refine XGo.call _ rfl xm_X7_isGrant rfl rfl [.ref 536, .int a] [] rfl rfl (fun _ => ⟨536, _, rfl, o36, by decide, by omega⟩) (Nat.le_of_ble_eq_true rfl) q ?_
  refine XGo.go 1 rfl ?_
  refine XGo.ifp rfl ?_
  refine XGo.go 1 rfl ?_
  exact XGo.iret _ rfl rfl .int rfl rfl
set_option maxRecDepth 100000 in
theorem mboth_h (d : Nat) (hB : MBk h f) (hG : G ≤ 6) (f2 : f 2 = nI G) {g : Nat} {b c y : Int32} (ha : g < G) {v : Option Value} {hend : XH} (k : XGo (d + 2) xm_X7_both (13, [some (.ref 536), some (.int (nI g)), some (.int b), some (.int c), some (.int y)], [.int (if 0 ≤ b.toInt ∧ b.toInt < (G : Int) then 1 else 0)], h) v hend) : XCall xM (d + 3) 165 [.ref 536, .int (nI g), .int b, .int c, .int y] h v hend := by
  obtain ⟨hN, hS, ⟨e, o36⟩, hf, -⟩ := id hB
  have tg := nI_toInt (n := g) (by omega)
  have q := k_isGr d hB hG f2 (nI g)
  rw [if_pos ⟨by omega, by omega⟩] at q
  refine XCall.of (M := xm_X7_both) rfl (Nat.le_of_ble_eq_true rfl) ?_
  refine XGo.go 2 rfl ?_
  refine XGo.call _ rfl xm_X7_isGrant rfl rfl [.ref 536, .int (nI g)] [] rfl rfl (fun _ => ⟨536, _, rfl, o36, by decide, by omega⟩) (Nat.le_of_ble_eq_true rfl) q ?_
  refine XGo.go 1 rfl ?_
  refine XGo.ifn (by decide) ?_
  refine XGo.go 2 rfl ?_
  exact XGo.call _ rfl xm_X7_isGrant rfl rfl [.ref 536, .int b] [] rfl rfl (fun _ => ⟨536, _, rfl, o36, by decide, by omega⟩) (Nat.le_of_ble_eq_true rfl) (k_isGr d hB hG f2 b) k
theorem mboth_2 (d : Nat) (hB : MBk h f) (hG : G ≤ 6) (f2 : f 2 = nI G) {g : Nat} {b c y : Int32} (ha : g < G) (hb : ¬ (0 ≤ b.toInt ∧ b.toInt < (G : Int))) : XCall xM (d + 3) 165 [.ref 536, .int (nI g), .int b, .int c, .int y] h (some (.int m1)) h := by
  refine mboth_h d hB hG f2 ha ?_
  rw [if_neg hb]
  refine XGo.go 1 rfl ?_
  refine XGo.ifp rfl ?_
  refine XGo.go 1 rfl ?_
  exact XGo.iret _ rfl rfl .int rfl rfl
theorem mboth_3 (d : Nat) (hB : MBk h f) (hG : G ≤ 6) (f2 : f 2 = nI G) {g g2 : Nat} {c y : Int32} (ha : g < G) (hb : g2 < G) {v : Option Value} {hend : XH} (k : XGo (d + 2) xm_X7_both (18, [some (.ref 536), some (.int (nI g)), some (.int (nI g2)), some (.int c), some (.int y)], [], h) v hend) : XCall xM (d + 3) 165 [.ref 536, .int (nI g), .int (nI g2), .int c, .int y] h v hend := by
  have tg := nI_toInt (n := g2) (by omega)
  refine mboth_h d hB hG f2 ha ?_
  rw [if_pos ⟨by omega, by omega⟩]
  refine XGo.go 1 rfl ?_
  exact XGo.ifn (by decide) k
theorem cclash_1 (d : Nat) (hI : AInv w_W h) (hH : GH h fw G T) (hG : G ≤ 6) {a b c : Int32} (ha : ¬ (0 ≤ a.toInt ∧ a.toInt < (G : Int))) : XCall xM (d + 2) 81 [.ref 13, .int a, .int b, .int c] h (some (.int m1)) h := by
  have hN := hH.N
  refine XCall.of (M := xm_X6_clash) rfl (Nat.le_of_ble_eq_true rfl) ?_
  refine XGo.go 1 rfl ?_
  refine XGo.getr rfl hI (by decide) (by decide) w_rg_13 k13s (by decide) (r13_0 hI) ?_
  refine XGo.go 1 rfl ?_
  refine XGo.call _ rfl xm_X5_grantAt rfl rfl [.ref 14, .int a] [] rfl rfl (fun _ => ⟨14, _, rfl, hH.o14, by decide, by omega⟩) (Nat.le_of_ble_eq_true rfl) (k_gNo d hH hG ha) ?_
  refine XGo.go 2 rfl ?_
  exact XGo.iret _ rfl rfl .int rfl rfl
theorem cclash_2 (d : Nat) (hI : AInv w_W h) (hH : GH h fw G T) (hG : G ≤ 6) {g : Nat} {b c : Int32} (ha : g < G) (hb : ¬ (0 ≤ b.toInt ∧ b.toInt < (G : Int))) : XCall xM (d + 2) 81 [.ref 13, .int (nI g), .int b, .int c] h (some (.int m1)) h := by
  have hN := hH.N
  refine XCall.of (M := xm_X6_clash) rfl (Nat.le_of_ble_eq_true rfl) ?_
  refine XGo.go 1 rfl ?_
  refine XGo.getr rfl hI (by decide) (by decide) w_rg_13 k13s (by decide) (r13_0 hI) ?_
  refine XGo.go 1 rfl ?_
  refine XGo.call _ rfl xm_X5_grantAt rfl rfl [.ref 14, .int (nI g)] [] rfl rfl (fun _ => ⟨14, _, rfl, hH.o14, by decide, by omega⟩) (Nat.le_of_ble_eq_true rfl) (k_gAt d hH ha hG) ?_
  refine XGo.go 2 rfl ?_
  refine XGo.getr rfl hI (by decide) (by decide) w_rg_13 k13s (by decide) (r13_0 hI) ?_
  refine XGo.go 1 rfl ?_
  refine XGo.call _ rfl xm_X5_grantAt rfl rfl [.ref 14, .int b] [] rfl rfl (fun _ => ⟨14, _, rfl, hH.o14, by decide, by omega⟩) (Nat.le_of_ble_eq_true rfl) (k_gNo d hH hG hb) ?_
  refine XGo.go 2 rfl ?_
  exact XGo.iret _ rfl rfl .int rfl rfl
theorem cclash_3 (d : Nat) (hI : AInv w_W h) (hH : GH h fw G T) (hG : G ≤ 6) {g g2 : Nat} {c : Int32} (ha : g < G) (hb : g2 < G) {v : Option Value} {hend : XH} (k : XGo (d + 1) xm_X6_clash (24, [some (.ref 13), some (.int (nI g)), some (.int (nI g2)), some (.int c), none, none], [], h) v hend) : XCall xM (d + 2) 81 [.ref 13, .int (nI g), .int (nI g2), .int c] h v hend := by
  have hN := hH.N
  refine XCall.of (M := xm_X6_clash) rfl (Nat.le_of_ble_eq_true rfl) ?_
  refine XGo.go 1 rfl ?_
  refine XGo.getr rfl hI (by decide) (by decide) w_rg_13 k13s (by decide) (r13_0 hI) ?_
  refine XGo.go 1 rfl ?_
  refine XGo.call _ rfl xm_X5_grantAt rfl rfl [.ref 14, .int (nI g)] [] rfl rfl (fun _ => ⟨14, _, rfl, hH.o14, by decide, by omega⟩) (Nat.le_of_ble_eq_true rfl) (k_gAt d hH ha hG) ?_
  refine XGo.go 2 rfl ?_
  refine XGo.getr rfl hI (by decide) (by decide) w_rg_13 k13s (by decide) (r13_0 hI) ?_
  refine XGo.go 1 rfl ?_
  refine XGo.call _ rfl xm_X5_grantAt rfl rfl [.ref 14, .int (nI g2)] [] rfl rfl (fun _ => ⟨14, _, rfl, hH.o14, by decide, by omega⟩) (Nat.le_of_ble_eq_true rfl) (k_gAt d hH hb hG) ?_
  exact XGo.go 1 rfl k
set_option maxRecDepth 100000 in
theorem mclash_1 (d : Nat) (hB : MBk h f) (hG : G ≤ 6) (f2 : f 2 = nI G) {a b c : Int32} (ha : ¬ (0 ≤ a.toInt ∧ a.toInt < (G : Int))) : XCall xM (d + 3) 166 [.ref 536, .int a, .int b, .int c] h (some (.int m1)) h := by
  obtain ⟨hN, hS, ⟨e, o36⟩, hf, -⟩ := id hB
  have q := k_isGr d hB hG f2 a
  rw [if_neg ha] at q
  refine XCall.of (M := xm_X7_clash) rfl (Nat.le_of_ble_eq_true rfl) ?_
  refine XGo.go 2 rfl ?_
  refine XGo.call _ rfl xm_X7_isGrant rfl rfl [.ref 536, .int a] [] rfl rfl (fun _ => ⟨536, _, rfl, o36, by decide, by omega⟩) (Nat.le_of_ble_eq_true rfl) q ?_
  refine XGo.go 1 rfl ?_
  refine XGo.ifp rfl ?_
  refine XGo.go 1 rfl ?_
  exact XGo.iret _ rfl rfl .int rfl rfl
set_option maxRecDepth 100000 in
theorem mclash_h (d : Nat) (hB : MBk h f) (hG : G ≤ 6) (f2 : f 2 = nI G) {g : Nat} {b c : Int32} (ha : g < G) {v : Option Value} {hend : XH} (k : XGo (d + 2) xm_X7_clash (13, [some (.ref 536), some (.int (nI g)), some (.int b), some (.int c), none, none], [.int (if 0 ≤ b.toInt ∧ b.toInt < (G : Int) then 1 else 0)], h) v hend) : XCall xM (d + 3) 166 [.ref 536, .int (nI g), .int b, .int c] h v hend := by
  obtain ⟨hN, hS, ⟨e, o36⟩, hf, -⟩ := id hB
  have tg := nI_toInt (n := g) (by omega)
  have q := k_isGr d hB hG f2 (nI g)
  rw [if_pos ⟨by omega, by omega⟩] at q
  refine XCall.of (M := xm_X7_clash) rfl (Nat.le_of_ble_eq_true rfl) ?_
  refine XGo.go 2 rfl ?_
  refine XGo.call _ rfl xm_X7_isGrant rfl rfl [.ref 536, .int (nI g)] [] rfl rfl (fun _ => ⟨536, _, rfl, o36, by decide, by omega⟩) (Nat.le_of_ble_eq_true rfl) q ?_
  refine XGo.go 1 rfl ?_
  refine XGo.ifn (by decide) ?_
  refine XGo.go 2 rfl ?_
  exact XGo.call _ rfl xm_X7_isGrant rfl rfl [.ref 536, .int b] [] rfl rfl (fun _ => ⟨536, _, rfl, o36, by decide, by omega⟩) (Nat.le_of_ble_eq_true rfl) (k_isGr d hB hG f2 b) k
theorem mclash_2 (d : Nat) (hB : MBk h f) (hG : G ≤ 6) (f2 : f 2 = nI G) {g : Nat} {b c : Int32} (ha : g < G) (hb : ¬ (0 ≤ b.toInt ∧ b.toInt < (G : Int))) : XCall xM (d + 3) 166 [.ref 536, .int (nI g), .int b, .int c] h (some (.int m1)) h := by
  refine mclash_h d hB hG f2 ha ?_
  rw [if_neg hb]
  refine XGo.go 1 rfl ?_
  refine XGo.ifp rfl ?_
  refine XGo.go 1 rfl ?_
  exact XGo.iret _ rfl rfl .int rfl rfl
theorem mclash_3 (d : Nat) (hB : MBk h f) (hG : G ≤ 6) (f2 : f 2 = nI G) {g g2 : Nat} {c : Int32} (ha : g < G) (hb : g2 < G) {v : Option Value} {hend : XH} (k : XGo (d + 2) xm_X7_clash (18, [some (.ref 536), some (.int (nI g)), some (.int (nI g2)), some (.int c), none, none], [], h) v hend) : XCall xM (d + 3) 166 [.ref 536, .int (nI g), .int (nI g2), .int c] h v hend := by
  have tg := nI_toInt (n := g2) (by omega)
  refine mclash_h d hB hG f2 ha ?_
  rw [if_pos ⟨by omega, by omega⟩]
  refine XGo.go 1 rfl ?_
  exact XGo.ifn (by decide) k
theorem csame_1 (d : Nat) (hI : AInv w_W h) (hH : GH h fw G T) (hG : G ≤ 6) {a b : Int32} (ha : ¬ (0 ≤ a.toInt ∧ a.toInt < (G : Int))) : XCall xM (d + 2) 82 [.ref 13, .int a, .int b] h (some (.int m1)) h := by
  have hN := hH.N
  refine XCall.of (M := xm_X6_same) rfl (Nat.le_of_ble_eq_true rfl) ?_
  refine XGo.go 1 rfl ?_
  refine XGo.getr rfl hI (by decide) (by decide) w_rg_13 k13s (by decide) (r13_0 hI) ?_
  refine XGo.go 1 rfl ?_
  refine XGo.call _ rfl xm_X5_grantAt rfl rfl [.ref 14, .int a] [] rfl rfl (fun _ => ⟨14, _, rfl, hH.o14, by decide, by omega⟩) (Nat.le_of_ble_eq_true rfl) (k_gNo d hH hG ha) ?_
  refine XGo.go 2 rfl ?_
  exact XGo.iret _ rfl rfl .int rfl rfl
theorem csame_2 (d : Nat) (hI : AInv w_W h) (hH : GH h fw G T) (hG : G ≤ 6) {g : Nat} {b : Int32} (ha : g < G) (hb : ¬ (0 ≤ b.toInt ∧ b.toInt < (G : Int))) : XCall xM (d + 2) 82 [.ref 13, .int (nI g), .int b] h (some (.int m1)) h := by
  have hN := hH.N
  refine XCall.of (M := xm_X6_same) rfl (Nat.le_of_ble_eq_true rfl) ?_
  refine XGo.go 1 rfl ?_
  refine XGo.getr rfl hI (by decide) (by decide) w_rg_13 k13s (by decide) (r13_0 hI) ?_
  refine XGo.go 1 rfl ?_
  refine XGo.call _ rfl xm_X5_grantAt rfl rfl [.ref 14, .int (nI g)] [] rfl rfl (fun _ => ⟨14, _, rfl, hH.o14, by decide, by omega⟩) (Nat.le_of_ble_eq_true rfl) (k_gAt d hH ha hG) ?_
  refine XGo.go 2 rfl ?_
  refine XGo.getr rfl hI (by decide) (by decide) w_rg_13 k13s (by decide) (r13_0 hI) ?_
  refine XGo.go 1 rfl ?_
  refine XGo.call _ rfl xm_X5_grantAt rfl rfl [.ref 14, .int b] [] rfl rfl (fun _ => ⟨14, _, rfl, hH.o14, by decide, by omega⟩) (Nat.le_of_ble_eq_true rfl) (k_gNo d hH hG hb) ?_
  refine XGo.go 2 rfl ?_
  exact XGo.iret _ rfl rfl .int rfl rfl
theorem csame_3 (d : Nat) (hI : AInv w_W h) (hH : GH h fw G T) (hG : G ≤ 6) {g g2 : Nat} (ha : g < G) (hb : g2 < G) {v : Option Value} {hend : XH} (k : XGo (d + 1) xm_X6_same (24, [some (.ref 13), some (.int (nI g)), some (.int (nI g2)), none, none], [], h) v hend) : XCall xM (d + 2) 82 [.ref 13, .int (nI g), .int (nI g2)] h v hend := by
  have hN := hH.N
  refine XCall.of (M := xm_X6_same) rfl (Nat.le_of_ble_eq_true rfl) ?_
  refine XGo.go 1 rfl ?_
  refine XGo.getr rfl hI (by decide) (by decide) w_rg_13 k13s (by decide) (r13_0 hI) ?_
  refine XGo.go 1 rfl ?_
  refine XGo.call _ rfl xm_X5_grantAt rfl rfl [.ref 14, .int (nI g)] [] rfl rfl (fun _ => ⟨14, _, rfl, hH.o14, by decide, by omega⟩) (Nat.le_of_ble_eq_true rfl) (k_gAt d hH ha hG) ?_
  refine XGo.go 2 rfl ?_
  refine XGo.getr rfl hI (by decide) (by decide) w_rg_13 k13s (by decide) (r13_0 hI) ?_
  refine XGo.go 1 rfl ?_
  refine XGo.call _ rfl xm_X5_grantAt rfl rfl [.ref 14, .int (nI g2)] [] rfl rfl (fun _ => ⟨14, _, rfl, hH.o14, by decide, by omega⟩) (Nat.le_of_ble_eq_true rfl) (k_gAt d hH hb hG) ?_
  exact XGo.go 1 rfl k
set_option maxRecDepth 100000 in
theorem msame_1 (d : Nat) (hB : MBk h f) (hG : G ≤ 6) (f2 : f 2 = nI G) {a b : Int32} (ha : ¬ (0 ≤ a.toInt ∧ a.toInt < (G : Int))) : XCall xM (d + 3) 167 [.ref 536, .int a, .int b] h (some (.int m1)) h := by
  obtain ⟨hN, hS, ⟨e, o36⟩, hf, -⟩ := id hB
  have q := k_isGr d hB hG f2 a
  rw [if_neg ha] at q
  refine XCall.of (M := xm_X7_same) rfl (Nat.le_of_ble_eq_true rfl) ?_
  refine XGo.go 2 rfl ?_
  refine XGo.call _ rfl xm_X7_isGrant rfl rfl [.ref 536, .int a] [] rfl rfl (fun _ => ⟨536, _, rfl, o36, by decide, by omega⟩) (Nat.le_of_ble_eq_true rfl) q ?_
  refine XGo.go 1 rfl ?_
  refine XGo.ifp rfl ?_
  refine XGo.go 1 rfl ?_
  exact XGo.iret _ rfl rfl .int rfl rfl
set_option maxRecDepth 100000 in
theorem msame_h (d : Nat) (hB : MBk h f) (hG : G ≤ 6) (f2 : f 2 = nI G) {g : Nat} {b : Int32} (ha : g < G) {v : Option Value} {hend : XH} (k : XGo (d + 2) xm_X7_same (13, [some (.ref 536), some (.int (nI g)), some (.int b), none, none], [.int (if 0 ≤ b.toInt ∧ b.toInt < (G : Int) then 1 else 0)], h) v hend) : XCall xM (d + 3) 167 [.ref 536, .int (nI g), .int b] h v hend := by
  obtain ⟨hN, hS, ⟨e, o36⟩, hf, -⟩ := id hB
  have tg := nI_toInt (n := g) (by omega)
  have q := k_isGr d hB hG f2 (nI g)
  rw [if_pos ⟨by omega, by omega⟩] at q
  refine XCall.of (M := xm_X7_same) rfl (Nat.le_of_ble_eq_true rfl) ?_
  refine XGo.go 2 rfl ?_
  refine XGo.call _ rfl xm_X7_isGrant rfl rfl [.ref 536, .int (nI g)] [] rfl rfl (fun _ => ⟨536, _, rfl, o36, by decide, by omega⟩) (Nat.le_of_ble_eq_true rfl) q ?_
  refine XGo.go 1 rfl ?_
  refine XGo.ifn (by decide) ?_
  refine XGo.go 2 rfl ?_
  exact XGo.call _ rfl xm_X7_isGrant rfl rfl [.ref 536, .int b] [] rfl rfl (fun _ => ⟨536, _, rfl, o36, by decide, by omega⟩) (Nat.le_of_ble_eq_true rfl) (k_isGr d hB hG f2 b) k
theorem msame_2 (d : Nat) (hB : MBk h f) (hG : G ≤ 6) (f2 : f 2 = nI G) {g : Nat} {b : Int32} (ha : g < G) (hb : ¬ (0 ≤ b.toInt ∧ b.toInt < (G : Int))) : XCall xM (d + 3) 167 [.ref 536, .int (nI g), .int b] h (some (.int m1)) h := by
  refine msame_h d hB hG f2 ha ?_
  rw [if_neg hb]
  refine XGo.go 1 rfl ?_
  refine XGo.ifp rfl ?_
  refine XGo.go 1 rfl ?_
  exact XGo.iret _ rfl rfl .int rfl rfl
theorem msame_3 (d : Nat) (hB : MBk h f) (hG : G ≤ 6) (f2 : f 2 = nI G) {g g2 : Nat} (ha : g < G) (hb : g2 < G) {v : Option Value} {hend : XH} (k : XGo (d + 2) xm_X7_same (18, [some (.ref 536), some (.int (nI g)), some (.int (nI g2)), none, none], [], h) v hend) : XCall xM (d + 3) 167 [.ref 536, .int (nI g), .int (nI g2)] h v hend := by
  have tg := nI_toInt (n := g2) (by omega)
  refine msame_h d hB hG f2 ha ?_
  rw [if_pos ⟨by omega, by omega⟩]
  refine XGo.go 1 rfl ?_
  exact XGo.ifn (by decide) k
end TW
/-! both and clash on both sides -/
/-- what both answers for grants that are there -/
def boS (f : Nat → Int32) (n m g nc g2 nc2 : Nat) (c y : Int32) : Int32 := if ¬ (isCo m c ∧ 0 ≤ y.toInt ∧ y.toInt ≤ 40) then i2m else if hsX f n m c g nc y.toNatClampNeg = 0 then hsX f n m c g2 nc2 y.toNatClampNeg else hsX f n m c g nc y.toNatClampNeg
def clN (a b : Nat → Int32) : Nat → Nat
  | 0 => 0
  | k + 1 => if ¬ a k = 0 ∧ ¬ b k = 0 then clN a b k + 1 else clN a b k
theorem clN_c {a b a2 b2 : Nat → Int32} : ∀ k, (∀ j, j < k → a j = a2 j ∧ b j = b2 j) → clN a b k = clN a2 b2 k
  | 0, _ => rfl
  | k + 1, h => by
    unfold clN
    rw [clN_c k fun j hj => h j (by omega), (h k (by omega)).1, (h k (by omega)).2]
/-- what clash answers for grants that are there -/
def csS (f : Nat → Int32) (n m g nc g2 nc2 : Nat) (c : Int32) : Int32 := if ¬ isCo m c then i2m else nI (clN (hsX f n m c g nc) (hsX f n m c g2 nc2) 41)
section BO
variable {L : Nat} {xs : Nat → Int32} {h : XH} {fw : List Value} {G T : Nat} {f : Nat → Int32} {n m : Nat} {g nc g2 nc2 : Nat} {Lt Nt Lt2 Nt2 : Nat → Int32}
set_option maxRecDepth 100000 in
theorem k_cbo (hI : INVg L xs h) (hf : h.2.2 537 = .inr (.inl (0, 490, f))) (W : RW f n m) (hH : GH h fw G T) (hG : G ≤ 6) (h3 : rd h 14 3 = some (.int (nI m))) (hg : g < G) (hnc : 1 ≤ nc ∧ nc ≤ 6) (hCG : CG h (24 + 3 * g) (nI nc) Lt Nt) (hC : CI f g Lt Nt nc) (hg2 : g2 < G) (hnc2 : 1 ≤ nc2 ∧ nc2 ≤ 6) (hCG2 : CG h (24 + 3 * g2) (nI nc2) Lt2 Nt2) (hC2 : CI f g2 Lt2 Nt2 nc2) (c y : Int32) : ∃ h1 : XH, XCall xM 9 80 [.ref 13, .int (nI g), .int (nI g2), .int c, .int y] h (some (.int (boS f n m g nc g2 nc2 c y))) h1 ∧ INVg L xs h1 ∧ h1.2.2 537 = h.2.2 537 := by
  have hN := hH.N
  have m6 := W.m6
  obtain ⟨fs, h13, -, -, -⟩ := w_lg hI.1.1
  have rc : ∀ {as : List Value} {M : XMeth}, xmC M = 6 → as.head? = some (.ref 13) → xrecv M as h := fun hM ha _ => ⟨13, fs, ha, by rw [hM]; exact h13, by decide, by omega⟩
  have to29 : ∀ {v : Option Value} {hend : XH}, XGo 8 xm_X6_both (29, [some (.ref 13), some (.int (nI g)), some (.int (nI g2)), some (.int c), some (.int y), none], [.int (if isCo m c then 1 else 0)], h) v hend → XCall xM 9 80 [.ref 13, .int (nI g), .int (nI g2), .int c, .int y] h v hend := fun {v hend} k => by
    refine cboth_3 7 hI.1.1 hH hG hg hg2 ?_
    refine XGo.go 2 rfl ?_
    exact XGo.call _ rfl xm_X6_isCourse rfl rfl [.ref 13, .int c] [] rfl rfl (rc rfl rfl) (Nat.le_of_ble_eq_true rfl) (k_isCo 6 hI.1.1 m6 h3 c) k
  have bad2 : XGo 8 xm_X6_both (40, [some (.ref 13), some (.int (nI g)), some (.int (nI g2)), some (.int c), some (.int y), none], [], h) (some (.int i2m)) h := by
    refine XGo.go 1 rfl ?_
    exact XGo.iret _ rfl rfl .int rfl rfl
  unfold boS
  by_cases hc : isCo m c
  · have to37 : ∀ {v : Option Value} {hend : XH}, XGo 8 xm_X6_both (37, [some (.ref 13), some (.int (nI g)), some (.int (nI g2)), some (.int c), some (.int y), none], [.int (if 0 ≤ y.toInt ∧ y.toInt ≤ 40 then 1 else 0)], h) v hend → XCall xM 9 80 [.ref 13, .int (nI g), .int (nI g2), .int c, .int y] h v hend := fun {v hend} k => by
      refine to29 ?_
      rw [if_pos hc]
      refine XGo.go 1 rfl ?_
      refine XGo.ifn (by decide) ?_
      refine XGo.go 1 rfl ?_
      exact XGo.call _ rfl xm_X6_isYear rfl rfl [.int y] [] rfl rfl (fun z => absurd rfl z) (Nat.le_of_ble_eq_true rfl) (k_isYear 7 h y) k
    by_cases hy : 0 ≤ y.toInt ∧ y.toInt ≤ 40
    · rw [if_neg (fun q => q ⟨hc, hy⟩)]
      obtain ⟨c0, c63⟩ := isCo63 m6 hc
      obtain ⟨h2, cB, hI2, ⟨⟨_, _, _, _, o71⟩, ⟨ho, o72, eho⟩, ⟨_, _, _, _, o75⟩, ⟨ho2, o76, eho2⟩⟩, oth⟩ := G_cboth hI hf W hH hG hg hnc hCG hC hg2 hnc2 hCG2 hC2 c0 c63
      have hN2 : h2.1 = 549 := hI2.1.1.1
      obtain ⟨yn, yl⟩ := i32_nI hy.1 hy.2
      have yl : y.toNatClampNeg < 41 := by omega
      refine ⟨h2, to37 ?_, hI2, oth 537 (by omega)⟩
      rw [if_pos hy, ← eho _ yl, ← eho2 _ yl]
      refine XGo.go 1 rfl ?_
      refine XGo.ifn (by decide) ?_
      refine XGo.go 4 rfl ?_
      refine XGo.call _ rfl xm_X6_goBoth rfl rfl [.ref 13, .int (nI g), .int (nI g2), .int c] [] rfl rfl (rc rfl rfl) (Nat.le_of_ble_eq_true rfl) (XCall.up (by decide) cB) ?_
      refine XGo.go 1 rfl ?_
      refine XGo.getr rfl hI2.1.1 (by decide) (by decide) w_rg_13 k13s (by decide) (r13_4 hI2.1.1) ?_
      refine XGo.getf rfl (xfd_o o71 (xlt hN2 (by decide)) (by decide) rfl) ?_
      refine XGo.go 1 rfl ?_
      have q := at_row (H := h2) (d := 7) o72 (xlt hN2 (by decide)) (by decide) yl
      have q2 := at_row (H := h2) (d := 7) o76 (xlt hN2 (by decide)) (by decide) yl
      rw [← yn] at q q2
      refine XGo.call _ rfl xm_X6_at rfl rfl [.ref 72, .int y] [] rfl rfl (fun z => absurd rfl z) (Nat.le_of_ble_eq_true rfl) q ?_
      refine XGo.go 3 rfl ?_
      by_cases z : ho y.toNatClampNeg = 0
      · rw [show (if ho y.toNatClampNeg = 0 then ho2 y.toNatClampNeg else ho y.toNatClampNeg) = ho2 y.toNatClampNeg from if_pos z]
        refine XGo.ifp z ?_
        refine XGo.go 1 rfl ?_
        refine XGo.getr rfl hI2.1.1 (by decide) (by decide) w_rg_13 k13s (by decide) (r13_5 hI2.1.1) ?_
        refine XGo.getf rfl (xfd_o o75 (xlt hN2 (by decide)) (by decide) rfl) ?_
        refine XGo.go 1 rfl ?_
        refine XGo.call _ rfl xm_X6_at rfl rfl [.ref 76, .int y] [] rfl rfl (fun z => absurd rfl z) (Nat.le_of_ble_eq_true rfl) q2 ?_
        exact XGo.iret _ rfl rfl .int rfl rfl
      · rw [show (if ho y.toNatClampNeg = 0 then ho2 y.toNatClampNeg else ho y.toNatClampNeg) = ho y.toNatClampNeg from if_neg z]
        refine XGo.ifn z ?_
        refine XGo.go 2 rfl ?_
        exact XGo.iret _ rfl rfl .int rfl rfl
    · rw [if_pos (fun q => hy q.2)]
      refine ⟨h, to37 ?_, hI, rfl⟩
      rw [if_neg hy]
      refine XGo.go 1 rfl ?_
      exact XGo.ifp rfl bad2
  · rw [if_pos (fun q => hc q.1)]
    refine ⟨h, to29 ?_, hI, rfl⟩
    rw [if_neg hc]
    refine XGo.go 1 rfl ?_
    exact XGo.ifp rfl bad2
set_option maxRecDepth 100000 in
theorem k_mbo (hB : MBk h f) {a47 : Nat → Int32} (h47 : h.2.2 547 = .inr (.inl (0, 41, a47))) (W : RW f n m) (hG : G ≤ 6) (f2 : f 2 = nI G) (hg : g < G) (hnc : 1 ≤ nc ∧ nc ≤ 6) (hfn : f (130 + g) = nI nc) (hC : CI f g Lt Nt nc) (hg2 : g2 < G) (hnc2 : 1 ≤ nc2 ∧ nc2 ≤ 6) (hfn2 : f (130 + g2) = nI nc2) (hC2 : CI f g2 Lt2 Nt2 nc2) (c y : Int32) : ∃ h1 : XH, XCall xM 9 165 [.ref 536, .int (nI g), .int (nI g2), .int c, .int y] h (some (.int (boS f n m g nc g2 nc2 c y))) h1 ∧ h1.2.2 537 = .inr (.inl (0, 490, f)) ∧ ∀ z, z < 536 → h1.2.2 z = h.2.2 z := by
  obtain ⟨hN, hS, ⟨e, o36⟩, hf, -⟩ := id hB
  have rc : ∀ {as : List Value} {M : XMeth}, xmC M = 7 → as.head? = some (.ref 536) → xrecv M as h := fun hM ha _ => ⟨536, _, ha, by rw [hM]; exact o36, by decide, by omega⟩
  have bad2 : XGo 8 xm_X7_both (37, [some (.ref 536), some (.int (nI g)), some (.int (nI g2)), some (.int c), some (.int y)], [], h) (some (.int i2m)) h := by
    refine XGo.go 1 rfl ?_
    exact XGo.iret _ rfl rfl .int rfl rfl
  have to23 : ∀ {v : Option Value} {hend : XH}, XGo 8 xm_X7_both (23, [some (.ref 536), some (.int (nI g)), some (.int (nI g2)), some (.int c), some (.int y)], [.int (if isCo m c then 1 else 0)], h) v hend → XCall xM 9 165 [.ref 536, .int (nI g), .int (nI g2), .int c, .int y] h v hend := fun {v hend} k => by
    refine mboth_3 6 hB hG f2 hg hg2 ?_
    refine XGo.go 2 rfl ?_
    exact XGo.call _ rfl xm_X7_isCourse rfl rfl [.ref 536, .int c] [] rfl rfl (rc rfl rfl) (Nat.le_of_ble_eq_true rfl) (k_isCoM 6 hB W c) k
  unfold boS
  by_cases hc : isCo m c
  · have to34 : ∀ {v : Option Value} {hend : XH}, XGo 8 xm_X7_both (34, [some (.ref 536), some (.int (nI g)), some (.int (nI g2)), some (.int c), some (.int y)], [.int (if 0 ≤ y.toInt ∧ y.toInt ≤ 40 then 1 else 0)], h) v hend → XCall xM 9 165 [.ref 536, .int (nI g), .int (nI g2), .int c, .int y] h v hend := fun {v hend} k => by
      refine to23 ?_
      rw [if_pos hc]
      refine XGo.go 1 rfl ?_
      refine XGo.ifn (by decide) ?_
      refine XGo.go 3 rfl ?_
      exact XGo.call _ rfl xm_X7_in rfl rfl [.int y, .int (Int32.ofInt 0), .int i40] [] rfl rfl (fun z => absurd rfl z) (Nat.le_of_ble_eq_true rfl) (k_in40 7 h y) k
    by_cases hy : 0 ≤ y.toInt ∧ y.toInt ≤ 40
    · rw [if_neg (fun q => q ⟨hc, hy⟩)]
      obtain ⟨h2, cB, hB2, ⟨fs, o47, efs⟩, ⟨ho, o43, eho⟩, oth⟩ := M_both hB h47 W (show g < 6 by omega) hnc hfn hC (show g2 < 6 by omega) hnc2 hfn2 hC2 c
      obtain ⟨hN2, -, ⟨e2, o362⟩, hf2, -⟩ := id hB2
      obtain ⟨yn, yl⟩ := i32_nI hy.1 hy.2
      have yl : y.toNatClampNeg < 41 := by omega
      have q := ia_nI o47 (xlt hN2 (by decide)) yl (by decide)
      have q2 := ia_nI o43 (xlt hN2 (by decide)) yl (by decide)
      rw [← yn] at q q2
      refine ⟨h2, to34 ?_, hf2, oth⟩
      rw [if_pos hy, ← efs _ yl, ← eho _ yl]
      refine XGo.go 1 rfl ?_
      refine XGo.ifn (by decide) ?_
      refine XGo.go 4 rfl ?_
      refine XGo.call _ rfl xm_X7_goesBoth rfl rfl [.ref 536, .int (nI g), .int (nI g2), .int c] [] rfl rfl (rc rfl rfl) (Nat.le_of_ble_eq_true rfl) cB ?_
      refine XGo.go 1 rfl ?_
      refine XGo.getf rfl (xfd_o o362 (xlt hN2 (by decide)) (by decide) rfl) ?_
      refine XGo.go 1 rfl ?_
      refine XGo.iald rfl q ?_
      refine XGo.go 1 rfl ?_
      by_cases z : fs y.toNatClampNeg = 0
      · rw [show (if fs y.toNatClampNeg = 0 then ho y.toNatClampNeg else fs y.toNatClampNeg) = ho y.toNatClampNeg from if_pos z]
        refine XGo.ifp z ?_
        refine XGo.go 1 rfl ?_
        refine XGo.getf rfl (xfd_o o362 (xlt hN2 (by decide)) (by decide) rfl) ?_
        refine XGo.go 1 rfl ?_
        refine XGo.iald rfl q2 ?_
        exact XGo.iret _ rfl rfl .int rfl rfl
      · rw [show (if fs y.toNatClampNeg = 0 then ho y.toNatClampNeg else fs y.toNatClampNeg) = fs y.toNatClampNeg from if_neg z]
        refine XGo.ifn z ?_
        refine XGo.go 1 rfl ?_
        refine XGo.getf rfl (xfd_o o362 (xlt hN2 (by decide)) (by decide) rfl) ?_
        refine XGo.go 1 rfl ?_
        refine XGo.iald rfl q ?_
        refine XGo.go 1 rfl ?_
        exact XGo.iret _ rfl rfl .int rfl rfl
    · rw [if_pos (fun q => hy q.2)]
      refine ⟨h, to34 ?_, hf, fun _ _ => rfl⟩
      rw [if_neg hy]
      refine XGo.go 1 rfl ?_
      exact XGo.ifp rfl bad2
  · rw [if_pos (fun q => hc q.1)]
    refine ⟨h, to23 ?_, hf, fun _ _ => rfl⟩
    rw [if_neg hc]
    refine XGo.go 1 rfl ?_
    exact XGo.ifp rfl bad2
set_option maxRecDepth 100000 in
theorem cl_c (d : Nat) {ho ho2 : Nat → Int32} (hI : AInv w_W h) (o71 : ∃ c r b hv : Int32, h.2.2 71 = .inl (4, [.ref 72, .ref 73, .ref 74, .int c, .int r, .int b, .int hv])) (o72 : h.2.2 72 = .inr (.inl (0, 41, ho))) (o75 : ∃ c r b hv : Int32, h.2.2 75 = .inl (4, [.ref 76, .ref 77, .ref 78, .int c, .int r, .int b, .int hv])) (o76 : h.2.2 76 = .inr (.inl (0, 41, ho2))) (a b c : Int32) : ∀ (q k : Nat), k + q = 41 → XGo (d + 1) xm_X6_clash (48, [some (.ref 13), some (.int a), some (.int b), some (.int c), some (.int (nI (clN ho ho2 k))), some (.int (nI k))], [], h) (some (.int (nI (clN ho ho2 41)))) h
  | 0, k, hk => by
    have hk : k = 41 := by omega
    subst hk
    refine XGo.go 3 rfl ?_
    refine XGo.ifp (by decide) ?_
    refine XGo.go 1 rfl ?_
    exact XGo.iret _ rfl rfl .int rfl rfl
  | q + 1, k, hk => by
    have k41 : k < 41 := by omega
    have hN : h.1 = 549 := hI.1
    have nx := cl_c d hI o71 o72 o75 o76 a b c q (k + 1) (by omega)
    obtain ⟨_, _, _, _, p71⟩ := o71
    obtain ⟨_, _, _, _, p75⟩ := o75
    have q1 := at_row (H := h) (d := d) o72 (xlt hN (by decide)) (by decide) k41
    have q2 := at_row (H := h) (d := d) o76 (xlt hN (by decide)) (by decide) k41
    rw [← show nI k + Int32.ofInt 1 = nI (k + 1) from nI_1 k] at nx
    refine XGo.go 3 rfl ?_
    refine XGo.ifn (fun z => absurd ((xnI_ge (m := 41) (by decide) (by omega)).mp z) (by omega)) ?_
    refine XGo.go 1 rfl ?_
    refine XGo.getr rfl hI (by decide) (by decide) w_rg_13 k13s (by decide) (r13_4 hI) ?_
    refine XGo.getf rfl (xfd_o p71 (xlt hN (by decide)) (by decide) rfl) ?_
    refine XGo.go 1 rfl ?_
    refine XGo.call _ rfl xm_X6_at rfl rfl [.ref 72, .int (nI k)] [] rfl rfl (fun z => absurd rfl z) (Nat.le_of_ble_eq_true rfl) q1 ?_
    refine XGo.go 1 rfl ?_
    by_cases z1 : ho k = 0
    · rw [show clN ho ho2 (k + 1) = clN ho ho2 k from if_neg fun w => w.1 z1] at nx
      refine XGo.ifp z1 ?_
      exact XGo.go 2 rfl nx
    · refine XGo.ifn z1 ?_
      refine XGo.go 1 rfl ?_
      refine XGo.getr rfl hI (by decide) (by decide) w_rg_13 k13s (by decide) (r13_5 hI) ?_
      refine XGo.getf rfl (xfd_o p75 (xlt hN (by decide)) (by decide) rfl) ?_
      refine XGo.go 1 rfl ?_
      refine XGo.call _ rfl xm_X6_at rfl rfl [.ref 76, .int (nI k)] [] rfl rfl (fun z => absurd rfl z) (Nat.le_of_ble_eq_true rfl) q2 ?_
      refine XGo.go 1 rfl ?_
      by_cases z2 : ho2 k = 0
      · rw [show clN ho ho2 (k + 1) = clN ho ho2 k from if_neg fun w => w.2 z2] at nx
        refine XGo.ifp z2 ?_
        exact XGo.go 2 rfl nx
      · rw [show clN ho ho2 (k + 1) = clN ho ho2 k + 1 from if_pos ⟨z1, z2⟩, ← show nI (clN ho ho2 k) + Int32.ofInt 1 = nI (clN ho ho2 k + 1) from nI_1 _] at nx
        refine XGo.ifn z2 ?_
        exact XGo.go 3 rfl nx
  termination_by q => q
set_option maxRecDepth 100000 in
theorem cl_m (d : Nat) {e fs ho : Nat → Int32} (hN : h.1 = 549) (o36 : h.2.2 536 = .inl (7, mO e)) (o47 : h.2.2 547 = .inr (.inl (0, 41, fs))) (o43 : h.2.2 543 = .inr (.inl (0, 41, ho))) (a b c : Int32) : ∀ (q k : Nat), k + q = 41 → XGo d xm_X7_clash (42, [some (.ref 536), some (.int a), some (.int b), some (.int c), some (.int (nI (clN fs ho k))), some (.int (nI k))], [], h) (some (.int (nI (clN fs ho 41)))) h
  | 0, k, hk => by
    have hk : k = 41 := by omega
    subst hk
    refine XGo.go 3 rfl ?_
    refine XGo.ifp (by decide) ?_
    refine XGo.go 1 rfl ?_
    exact XGo.iret _ rfl rfl .int rfl rfl
  | q + 1, k, hk => by
    have k41 : k < 41 := by omega
    have nx := cl_m d hN o36 o47 o43 a b c q (k + 1) (by omega)
    have q1 := ia_nI o47 (xlt hN (by decide)) k41 (by decide)
    have q2 := ia_nI o43 (xlt hN (by decide)) k41 (by decide)
    rw [← show nI k + Int32.ofInt 1 = nI (k + 1) from nI_1 k] at nx
    have nx0 : clN fs ho (k + 1) = clN fs ho k → XGo d xm_X7_clash (75, [some (.ref 536), some (.int a), some (.int b), some (.int c), some (.int (nI (clN fs ho k))), some (.int (nI k))], [.int (nI (clN fs ho k))], h) (some (.int (nI (clN fs ho 41)))) h := fun w => by
      rw [w, ← show nI (clN fs ho k) + Int32.ofInt 0 = nI (clN fs ho k) from Int32.add_zero _] at nx
      exact XGo.go 5 rfl nx
    refine XGo.go 3 rfl ?_
    refine XGo.ifn (fun z => absurd ((xnI_ge (m := 41) (by decide) (by omega)).mp z) (by omega)) ?_
    refine XGo.go 2 rfl ?_
    refine XGo.getf rfl (xfd_o o36 (xlt hN (by decide)) (by decide) rfl) ?_
    refine XGo.go 1 rfl ?_
    refine XGo.iald rfl q1 ?_
    refine XGo.go 1 rfl ?_
    by_cases z1 : fs k = 0
    · refine XGo.ifp z1 ?_
      exact nx0 (if_neg fun w => w.1 z1)
    · refine XGo.ifn z1 ?_
      refine XGo.go 1 rfl ?_
      refine XGo.getf rfl (xfd_o o36 (xlt hN (by decide)) (by decide) rfl) ?_
      refine XGo.go 1 rfl ?_
      refine XGo.iald rfl q2 ?_
      refine XGo.go 1 rfl ?_
      by_cases z2 : ho k = 0
      · refine XGo.ifp z2 ?_
        exact nx0 (if_neg fun w => w.2 z2)
      · rw [show clN fs ho (k + 1) = clN fs ho k + 1 from if_pos ⟨z1, z2⟩, ← show nI (clN fs ho k) + Int32.ofInt 1 = nI (clN fs ho k + 1) from nI_1 _] at nx
        refine XGo.ifn z2 ?_
        exact XGo.go 6 rfl nx
  termination_by q => q
set_option maxRecDepth 100000 in
theorem k_ccs (hI : INVg L xs h) (hf : h.2.2 537 = .inr (.inl (0, 490, f))) (W : RW f n m) (hH : GH h fw G T) (hG : G ≤ 6) (h3 : rd h 14 3 = some (.int (nI m))) (hg : g < G) (hnc : 1 ≤ nc ∧ nc ≤ 6) (hCG : CG h (24 + 3 * g) (nI nc) Lt Nt) (hC : CI f g Lt Nt nc) (hg2 : g2 < G) (hnc2 : 1 ≤ nc2 ∧ nc2 ≤ 6) (hCG2 : CG h (24 + 3 * g2) (nI nc2) Lt2 Nt2) (hC2 : CI f g2 Lt2 Nt2 nc2) (c : Int32) : ∃ h1 : XH, XCall xM 9 81 [.ref 13, .int (nI g), .int (nI g2), .int c] h (some (.int (csS f n m g nc g2 nc2 c))) h1 ∧ INVg L xs h1 ∧ h1.2.2 537 = h.2.2 537 := by
  have hN := hH.N
  have m6 := W.m6
  obtain ⟨fs, h13, -, -, -⟩ := w_lg hI.1.1
  have rc : ∀ {as : List Value} {M : XMeth}, xmC M = 6 → as.head? = some (.ref 13) → xrecv M as h := fun hM ha _ => ⟨13, fs, ha, by rw [hM]; exact h13, by decide, by omega⟩
  have to29 : ∀ {v : Option Value} {hend : XH}, XGo 8 xm_X6_clash (29, [some (.ref 13), some (.int (nI g)), some (.int (nI g2)), some (.int c), none, none], [.int (if isCo m c then 1 else 0)], h) v hend → XCall xM 9 81 [.ref 13, .int (nI g), .int (nI g2), .int c] h v hend := fun {v hend} k => by
    refine cclash_3 7 hI.1.1 hH hG hg hg2 ?_
    refine XGo.go 2 rfl ?_
    exact XGo.call _ rfl xm_X6_isCourse rfl rfl [.ref 13, .int c] [] rfl rfl (rc rfl rfl) (Nat.le_of_ble_eq_true rfl) (k_isCo 6 hI.1.1 m6 h3 c) k
  unfold csS
  by_cases hc : isCo m c
  · rw [if_neg (fun q => q hc)]
    obtain ⟨c0, c63⟩ := isCo63 m6 hc
    obtain ⟨h2, cB, hI2, ⟨o71, ⟨ho, o72, eho⟩, o75, ⟨ho2, o76, eho2⟩⟩, oth⟩ := G_cboth hI hf W hH hG hg hnc hCG hC hg2 hnc2 hCG2 hC2 c0 c63
    refine ⟨h2, to29 ?_, hI2, oth 537 (by omega)⟩
    rw [if_pos hc, ← clN_c 41 fun j hj => ⟨eho j hj, eho2 j hj⟩]
    refine XGo.go 1 rfl ?_
    refine XGo.ifn (by decide) ?_
    refine XGo.go 4 rfl ?_
    refine XGo.call _ rfl xm_X6_goBoth rfl rfl [.ref 13, .int (nI g), .int (nI g2), .int c] [] rfl rfl (rc rfl rfl) (Nat.le_of_ble_eq_true rfl) (XCall.up (by decide) cB) ?_
    refine XGo.go 4 rfl ?_
    exact cl_c 7 hI2.1.1 o71 o72 o75 o76 _ _ _ 41 0 rfl
  · rw [if_pos hc]
    refine ⟨h, to29 ?_, hI, rfl⟩
    rw [if_neg hc]
    refine XGo.go 1 rfl ?_
    refine XGo.ifp rfl ?_
    refine XGo.go 1 rfl ?_
    exact XGo.iret _ rfl rfl .int rfl rfl
set_option maxRecDepth 100000 in
theorem k_mcs (hB : MBk h f) {a47 : Nat → Int32} (h47 : h.2.2 547 = .inr (.inl (0, 41, a47))) (W : RW f n m) (hG : G ≤ 6) (f2 : f 2 = nI G) (hg : g < G) (hnc : 1 ≤ nc ∧ nc ≤ 6) (hfn : f (130 + g) = nI nc) (hC : CI f g Lt Nt nc) (hg2 : g2 < G) (hnc2 : 1 ≤ nc2 ∧ nc2 ≤ 6) (hfn2 : f (130 + g2) = nI nc2) (hC2 : CI f g2 Lt2 Nt2 nc2) (c : Int32) : ∃ h1 : XH, XCall xM 9 166 [.ref 536, .int (nI g), .int (nI g2), .int c] h (some (.int (csS f n m g nc g2 nc2 c))) h1 ∧ h1.2.2 537 = .inr (.inl (0, 490, f)) ∧ ∀ z, z < 536 → h1.2.2 z = h.2.2 z := by
  obtain ⟨hN, hS, ⟨e, o36⟩, hf, -⟩ := id hB
  have rc : ∀ {as : List Value} {M : XMeth}, xmC M = 7 → as.head? = some (.ref 536) → xrecv M as h := fun hM ha _ => ⟨536, _, ha, by rw [hM]; exact o36, by decide, by omega⟩
  have to23 : ∀ {v : Option Value} {hend : XH}, XGo 8 xm_X7_clash (23, [some (.ref 536), some (.int (nI g)), some (.int (nI g2)), some (.int c), none, none], [.int (if isCo m c then 1 else 0)], h) v hend → XCall xM 9 166 [.ref 536, .int (nI g), .int (nI g2), .int c] h v hend := fun {v hend} k => by
    refine mclash_3 6 hB hG f2 hg hg2 ?_
    refine XGo.go 2 rfl ?_
    exact XGo.call _ rfl xm_X7_isCourse rfl rfl [.ref 536, .int c] [] rfl rfl (rc rfl rfl) (Nat.le_of_ble_eq_true rfl) (k_isCoM 6 hB W c) k
  unfold csS
  by_cases hc : isCo m c
  · rw [if_neg (fun q => q hc)]
    obtain ⟨h2, cB, hB2, ⟨fs, o47, efs⟩, ⟨ho, o43, eho⟩, oth⟩ := M_both hB h47 W (show g < 6 by omega) hnc hfn hC (show g2 < 6 by omega) hnc2 hfn2 hC2 c
    obtain ⟨hN2, -, ⟨e2, o362⟩, hf2, -⟩ := id hB2
    refine ⟨h2, to23 ?_, hf2, oth⟩
    rw [if_pos hc, ← clN_c 41 fun j hj => ⟨efs j hj, eho j hj⟩]
    refine XGo.go 1 rfl ?_
    refine XGo.ifn (by decide) ?_
    refine XGo.go 4 rfl ?_
    refine XGo.call _ rfl xm_X7_goesBoth rfl rfl [.ref 536, .int (nI g), .int (nI g2), .int c] [] rfl rfl (rc rfl rfl) (Nat.le_of_ble_eq_true rfl) cB ?_
    refine XGo.go 4 rfl ?_
    exact cl_m 8 hN2 o362 o47 o43 _ _ _ 41 0 rfl
  · rw [if_pos hc]
    refine ⟨h, to23 ?_, hf, fun _ _ => rfl⟩
    rw [if_neg hc]
    refine XGo.go 1 rfl ?_
    refine XGo.ifp rfl ?_
    refine XGo.go 1 rfl ?_
    exact XGo.iret _ rfl rfl .int rfl rfl
end BO
theorem r547 {h : XH} (hI : AInv w_W h) : ∃ a : Nat → Int32, h.2.2 547 = .inr (.inl (0, 41, a)) := w_ints hI (k := 547) (by decide) w_rg_547 (show w_S 76 = (1, 0, 41, [], w_s76.2.2.2.2) from rfl)
/-- BOTH ON BOTH SIDES -/
theorem G_both (a b c y : Int32) {L : Nat} {xs : Nat → Int32} {h : XH} (hI : INVg L xs h) : ∃ (v : Int32) (h1 h2 : XH), XCall xM 11 80 [.ref 13, .int a, .int b, .int c, .int y] h (some (.int v)) h1 ∧ AInv w_W h1 ∧ h1.2.2 1 = h.2.2 1 ∧ XCall xM 11 165 [.ref 536, .int a, .int b, .int c, .int y] h1 (some (.int v)) h2 ∧ INVg L xs h2 := by
  obtain ⟨f, n, m, G, T, fw, hf, W, hH, hG, f2, h3, hg⟩ := G_ctx hI
  have hB := mbk_of hI.1.1 hf
  rcases gr_dec hG a with ha | ⟨g, hgG, rfl⟩
  · exact ⟨m1, h, h, XCall.up (by decide) (cboth_1 0 hI.1.1 hH hG ha), hI.1.1, rfl, XCall.up (by decide) (mboth_1 0 hB hG f2 ha), hI⟩
  rcases gr_dec hG b with hb | ⟨g2, hgG2, rfl⟩
  · exact ⟨m1, h, h, XCall.up (by decide) (cboth_2 0 hI.1.1 hH hG hgG hb), hI.1.1, rfl, XCall.up (by decide) (mboth_2 0 hB hG f2 hgG hb), hI⟩
  obtain ⟨nc, Lt, Nt, hnc, hCG, hfn, hC⟩ := hg g hgG
  obtain ⟨nc2, Lt2, Nt2, hnc2, hCG2, hfn2, hC2⟩ := hg g2 hgG2
  obtain ⟨h1, c1, hI1, o1⟩ := k_cbo hI hf W hH hG h3 hgG hnc hCG hC hgG2 hnc2 hCG2 hC2 c y
  have hf1 := o1.trans hf
  obtain ⟨a47, h47⟩ := r547 hI1.1.1
  obtain ⟨h2, c2, hf2, o2⟩ := k_mbo (mbk_of hI1.1.1 hf1) h47 W hG f2 hgG hnc hfn hC hgG2 hnc2 hfn2 hC2 c y
  refine ⟨_, h1, h2, XCall.up (by decide) c1, hI1.1.1, XCall.ext _ _ _ _ _ _ c1 (by rw [hI.1.1.1]; decide) 1 (by decide), XCall.up (by decide) c2, ?_⟩
  exact G_fin h_965 (by decide +kernel) rfl (by decide +kernel) (by decide +kernel) (by decide +kernel) (gal536 (galT _ (galT _ (galT c (galT y gal0))))) hI1 c2 hf1 hf2 o2
/-- CLASH ON BOTH SIDES -/
theorem G_clash (a b c : Int32) {L : Nat} {xs : Nat → Int32} {h : XH} (hI : INVg L xs h) : ∃ (v : Int32) (h1 h2 : XH), XCall xM 11 81 [.ref 13, .int a, .int b, .int c] h (some (.int v)) h1 ∧ AInv w_W h1 ∧ h1.2.2 1 = h.2.2 1 ∧ XCall xM 11 166 [.ref 536, .int a, .int b, .int c] h1 (some (.int v)) h2 ∧ INVg L xs h2 := by
  obtain ⟨f, n, m, G, T, fw, hf, W, hH, hG, f2, h3, hg⟩ := G_ctx hI
  have hB := mbk_of hI.1.1 hf
  rcases gr_dec hG a with ha | ⟨g, hgG, rfl⟩
  · exact ⟨m1, h, h, XCall.up (by decide) (cclash_1 0 hI.1.1 hH hG ha), hI.1.1, rfl, XCall.up (by decide) (mclash_1 0 hB hG f2 ha), hI⟩
  rcases gr_dec hG b with hb | ⟨g2, hgG2, rfl⟩
  · exact ⟨m1, h, h, XCall.up (by decide) (cclash_2 0 hI.1.1 hH hG hgG hb), hI.1.1, rfl, XCall.up (by decide) (mclash_2 0 hB hG f2 hgG hb), hI⟩
  obtain ⟨nc, Lt, Nt, hnc, hCG, hfn, hC⟩ := hg g hgG
  obtain ⟨nc2, Lt2, Nt2, hnc2, hCG2, hfn2, hC2⟩ := hg g2 hgG2
  obtain ⟨h1, c1, hI1, o1⟩ := k_ccs hI hf W hH hG h3 hgG hnc hCG hC hgG2 hnc2 hCG2 hC2 c
  have hf1 := o1.trans hf
  obtain ⟨a47, h47⟩ := r547 hI1.1.1
  obtain ⟨h2, c2, hf2, o2⟩ := k_mcs (mbk_of hI1.1.1 hf1) h47 W hG f2 hgG hnc hfn hC hgG2 hnc2 hfn2 hC2 c
  refine ⟨_, h1, h2, XCall.up (by decide) c1, hI1.1.1, XCall.ext _ _ _ _ _ _ c1 (by rw [hI.1.1.1]; decide) 1 (by decide), XCall.up (by decide) c2, ?_⟩
  exact G_fin h_966 (by decide +kernel) rfl (by decide +kernel) (by decide +kernel) (by decide +kernel) (gal536 (galT _ (galT _ (galT c gal0)))) hI1 c2 hf1 hf2 o2
