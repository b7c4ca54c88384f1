/-! share on both sides -/
/-- what share answers for a grant that is there -/
def shX (f : Nat → Int32) (n m g nc : Nat) (p c y : Int32) : Int32 := if ¬ (0 ≤ p.toInt ∧ p.toInt ≤ 13) then m1 else if ¬ (isCo m c ∧ 0 ≤ y.toInt ∧ y.toInt ≤ 40) then i2m else if (hsX f n m c g nc y.toNatClampNeg >>> (p &&& 31)) &&& Int32.ofInt 1 = 0 then Int32.ofInt 0 else c1S (hsX f n m c g nc y.toNatClampNeg) 14
theorem k_in13 (d : Nat) (h : XH) (x : Int32) : XCall xM (d + 1) 107 [.int x, .int (Int32.ofInt 0), .int (Int8.ofInt 13).toInt32] h (some (.int (if 0 ≤ x.toInt ∧ x.toInt ≤ 13 then 1 else 0))) h := by
  have q := k_inI d h x (Int32.ofInt 0) (Int8.ofInt 13).toInt32
  rw [show (Int32.ofInt 0).toInt = 0 by decide, show ((Int8.ofInt 13).toInt32).toInt = 13 by decide] at q
  exact q
section SX
variable {L : Nat} {xs : Nat → Int32} {h : XH} {fw : List Value} {G T : Nat} {f : Nat → Int32} {n m : Nat} {g nc : Nat} {Lt Nt : Nat → Int32}
abbrev sahL (gr p c y : Int32) (l5 l6 : Option Value) : XL := [some (.ref 13), some (.int gr), some (.int p), some (.int c), some (.int y), l5, l6]
theorem csh_h (d : Nat) (hI : AInv w_W h) {gr p c y : Int32} {u : Value} (c58 : XCall xM (d + 1) 58 [.ref 14, .int gr] h (some u) h) (hH : GH h fw G T) {v : Option Value} {hend : XH} (k : XGo (d + 1) xm_X6_share (8, sahL gr p c y none none, [u], h) v hend) : XCall xM (d + 2) 72 [.ref 13, .int gr, .int p, .int c, .int y] h v hend := by
  have hN := hH.N
  refine XCall.of (M := xm_X6_share) rfl (Nat.le_of_ble_eq_true rfl) ?_
  refine XGo.go 1 rfl ?_
  refine XGo.getr rfl hI (by decide) (by decide) w_rg_13 k13s (by decide) (r13_0 hI) ?_
  refine XGo.go 1 rfl ?_
  exact XGo.call _ rfl xm_X5_grantAt rfl rfl [.ref 14, .int gr] [] rfl rfl (fun _ => ⟨14, _, rfl, hH.o14, by decide, by omega⟩) (Nat.le_of_ble_eq_true rfl) c58 k
set_option maxRecDepth 100000 in
theorem k_csh (hI : INVg L xs h) (hf : h.2.2 537 = .inr (.inl (0, 490, f))) (W : RW f n m) (hH : GH h fw G T) (hG : G ≤ 6) (h3 : rd h 14 3 = some (.int (nI m))) (hg : g < G) (hnc : 1 ≤ nc ∧ nc ≤ 6) (hCG : CG h (24 + 3 * g) (nI nc) Lt Nt) (hC : CI f g Lt Nt nc) (p c y : Int32) : ∃ h1 : XH, XCall xM 8 72 [.ref 13, .int (nI g), .int p, .int c, .int y] h (some (.int (shX f n m g nc p c y))) h1 ∧ INVg L xs h1 ∧ h1.2.2 537 = h.2.2 537 := by
  have hN := hH.N
  have m6 := W.m6
  obtain ⟨fs, h13, -, -, -⟩ := w_lg hI.1.1
  have rc : ∀ {as : List Value} {M : XMeth}, xmC M = 6 → as.head? = some (.ref 13) → xrecv M as h := fun hM ha _ => ⟨13, fs, ha, by rw [hM]; exact h13, by decide, by omega⟩
  have head : ∀ {v : Option Value} {hend : XH}, XGo 7 xm_X6_share (19, sahL (nI g) p c y (some (.ref (24 + 3 * g))) none, [.int (if 0 ≤ p.toInt ∧ p.toInt ≤ 13 then 1 else 0)], h) v hend → XCall xM 8 72 [.ref 13, .int (nI g), .int p, .int c, .int y] h v hend := fun {v hend} k => by
    refine csh_h 6 hI.1.1 (k_gAt 6 hH hg hG) hH ?_
    refine XGo.go 4 rfl ?_
    exact XGo.call _ rfl xm_X6_isOneOfPeople rfl rfl [.int p] [] rfl rfl (fun z => absurd rfl z) (Nat.le_of_ble_eq_true rfl) (k_isOne 6 h p) k
  have bad2 : XGo 7 xm_X6_share (40, sahL (nI g) p c y (some (.ref (24 + 3 * g))) none, [], h) (some (.int i2m)) h := by
    refine XGo.go 1 rfl ?_
    exact XGo.iret _ rfl rfl .int rfl rfl
  unfold shX
  by_cases hp : 0 ≤ p.toInt ∧ p.toInt ≤ 13
  · rw [if_neg (fun q => q hp)]
    have to29 : ∀ {v : Option Value} {hend : XH}, XGo 7 xm_X6_share (29, sahL (nI g) p c y (some (.ref (24 + 3 * g))) none, [.int (if isCo m c then 1 else 0)], h) v hend → XCall xM 8 72 [.ref 13, .int (nI g), .int p, .int c, .int y] h v hend := fun {v hend} k => by
      refine head ?_
      rw [if_pos hp]
      refine XGo.go 1 rfl ?_
      refine XGo.ifn (by decide) ?_
      refine XGo.go 2 rfl ?_
      exact XGo.call _ rfl xm_X6_isCourse rfl rfl [.ref 13, .int c] [] rfl rfl (rc rfl rfl) (Nat.le_of_ble_eq_true rfl) (k_isCo 5 hI.1.1 m6 h3 c) k
    by_cases hc : isCo m c
    · have to37 : ∀ {v : Option Value} {hend : XH}, XGo 7 xm_X6_share (37, sahL (nI g) p c y (some (.ref (24 + 3 * g))) none, [.int (if 0 ≤ y.toInt ∧ y.toInt ≤ 40 then 1 else 0)], h) v hend → XCall xM 8 72 [.ref 13, .int (nI g), .int p, .int c, .int y] h v hend := fun {v hend} k => by
        refine to29 ?_
        rw [if_pos hc]
        refine XGo.go 1 rfl ?_
        refine XGo.ifn (by decide) ?_
        refine XGo.go 1 rfl ?_
        exact XGo.call _ rfl xm_X6_isYear rfl rfl [.int y] [] rfl rfl (fun z => absurd rfl z) (Nat.le_of_ble_eq_true rfl) (k_isYear 6 h y) k
      by_cases hy : 0 ≤ y.toInt ∧ y.toInt ≤ 40
      · rw [if_neg (fun q => q ⟨hc, hy⟩)]
        obtain ⟨c0, c63⟩ := isCo63 m6 hc
        obtain ⟨k, h1, h2, cC, ⟨fs71, e71, l71⟩, cR, hI2, ⟨⟨_, _, _, _, o71⟩, ⟨ho, o72, eho⟩, -, -⟩, oth⟩ := G_crun hI hf W (show g < 6 by omega) hnc hCG hC c0 c63
        have hN2 : h2.1 = 549 := hI2.1.1.1
        obtain ⟨yn, yl⟩ := i32_nI hy.1 hy.2
        have yl : y.toNatClampNeg < 41 := by omega
        have e14 := bc_14 (hsX_14 W hnc hC c yl)
        refine ⟨h2, to37 ?_, hI2, oth 537 (by omega)⟩
        rw [← e14, if_pos hy, ← eho _ yl]
        refine XGo.go 1 rfl ?_
        refine XGo.ifn (by decide) ?_
        refine XGo.go 1 rfl ?_
        refine XGo.getr rfl hI.1.1 (by decide) (by decide) w_rg_13 k13s (by decide) (r13_4 hI.1.1) ?_
        refine XGo.go 3 rfl ?_
        refine XGo.call _ rfl xm_X6_courseOf rfl rfl [.ref 13, .int c] [.ref (24 + 3 * g), .ref 71] rfl rfl (rc rfl rfl) (Nat.le_of_ble_eq_true rfl) (XCall.up (by decide) cC) ?_
        refine XGo.call _ rfl xm_X4_go rfl rfl [.ref 71, .ref (24 + 3 * g), .ref (88 + 7 * k)] [] rfl rfl (fun _ => ⟨71, _, rfl, e71, by decide, l71⟩) (Nat.le_of_ble_eq_true rfl) (XCall.up (by decide) cR) ?_
        refine XGo.go 1 rfl ?_
        refine XGo.getr rfl hI2.1.1 (by decide) (by decide) w_rg_13 k13s (by decide) (r13_4 hI2.1.1) ?_
        refine XGo.getf rfl (xfd_o o71 (xlt hN2 (by decide)) (by decide) rfl) ?_
        refine XGo.go 1 rfl ?_
        have q := at_row (H := h2) (d := 6) o72 (xlt hN2 (by decide)) (by decide) yl
        rw [← yn] at q
        refine XGo.call _ rfl xm_X6_at rfl rfl [.ref 72, .int y] [] rfl rfl (fun z => absurd rfl z) (Nat.le_of_ble_eq_true rfl) q ?_
        refine XGo.go 7 rfl ?_
        by_cases z : (ho y.toNatClampNeg >>> (p &&& 31)) &&& Int32.ofInt 1 = 0
        · rw [show (if (ho y.toNatClampNeg >>> (p &&& 31)) &&& Int32.ofInt 1 = 0 then Int32.ofInt 0 else bc32 (ho y.toNatClampNeg)) = Int32.ofInt 0 from if_pos z]
          refine XGo.ifp z ?_
          refine XGo.go 2 rfl ?_
          exact XGo.iret _ rfl rfl .int rfl rfl
        · rw [show (if (ho y.toNatClampNeg >>> (p &&& 31)) &&& Int32.ofInt 1 = 0 then Int32.ofInt 0 else bc32 (ho y.toNatClampNeg)) = bc32 (ho y.toNatClampNeg) from if_neg z]
          refine XGo.ifn z ?_
          refine XGo.go 1 rfl ?_
          refine XGo.call _ rfl xm_J6_bitCount_0f7a4 rfl rfl [.int (ho y.toNatClampNeg)] [] rfl rfl (fun z => absurd rfl z) (Nat.le_of_ble_eq_true rfl) (k_bc32 6 h2 _) ?_
          exact XGo.iret _ rfl rfl .int rfl rfl
      · rw [if_pos (fun q => hy q.2)]
        refine ⟨h, to37 ?_, hI, rfl⟩
        rw [if_neg hy]
        refine XGo.go 1 rfl ?_
        exact XGo.ifp rfl bad2
    · rw [if_pos (fun q => hc q.1)]
      refine ⟨h, to29 ?_, hI, rfl⟩
      rw [if_neg hc]
      refine XGo.go 1 rfl ?_
      exact XGo.ifp rfl bad2
  · rw [if_pos hp]
    refine ⟨h, head ?_, hI, rfl⟩
    rw [if_neg hp]
    refine XGo.go 1 rfl ?_
    refine XGo.ifp rfl ?_
    refine XGo.go 1 rfl ?_
    exact XGo.iret _ rfl rfl .int rfl rfl
set_option maxRecDepth 100000 in
theorem msh_h (d : Nat) (hB : MBk h f) (hG : G ≤ 6) (f2 : f 2 = nI G) {gr p c y : Int32} {b : Int32} (hb : b = if 0 ≤ gr.toInt ∧ gr.toInt < (G : Int) then 1 else 0) {v : Option Value} {hend : XH} (k : XGo (d + 2) xm_X7_share (5, [some (.ref 536), some (.int gr), some (.int p), some (.int c), some (.int y)], [.int b], h) v hend) : XCall xM (d + 3) 152 [.ref 536, .int gr, .int p, .int c, .int y] h v hend := by
  obtain ⟨hN, hS, ⟨e, o36⟩, hf, -⟩ := id hB
  have q := k_isGr d hB hG f2 gr
  rw [← hb] at q
  refine XCall.of (M := xm_X7_share) rfl (Nat.le_of_ble_eq_true rfl) ?_
  refine XGo.go 2 rfl ?_
  exact XGo.call _ rfl xm_X7_isGrant rfl rfl [.ref 536, .int gr] [] rfl rfl (fun _ => ⟨536, _, rfl, o36, by decide, by omega⟩) (Nat.le_of_ble_eq_true rfl) q k
/-- a bit that isn't 0 is 1 -/
theorem sh_b1 {x : Int32} {i : Nat} (hi : i < 32) (z : ¬ (x >>> (nI i &&& 31)) &&& Int32.ofInt 1 = 0) : lvB x i := by
  by_cases w : lvB x i
  · exact w
  · exact absurd ((lvB_01 hi).trans (if_neg w)) z
theorem sh_b1p {x p : Int32} (hp : 0 ≤ p.toInt ∧ p.toInt ≤ 13) (z : ¬ (x >>> (p &&& 31)) &&& Int32.ofInt 1 = 0) : (x >>> (p &&& 31)) &&& Int32.ofInt 1 = Int32.ofInt 1 := by
  obtain ⟨pn, pl⟩ := i32_nI hp.1 hp.2
  obtain ⟨i, hi, rfl⟩ : ∃ i, i < 32 ∧ p = nI i := ⟨_, by omega, pn⟩
  exact sh_b1 hi z
set_option maxRecDepth 100000 in
theorem msh15 (hB : MBk h f) (hG : G ≤ 6) (f2 : f 2 = nI G) (hg : g < G) {p c y : Int32} {v : Option Value} {hend : XH} (k : XGo 7 xm_X7_share (15, [some (.ref 536), some (.int (nI g)), some (.int p), some (.int c), some (.int y)], [.int (if 0 ≤ p.toInt ∧ p.toInt ≤ 13 then 1 else 0)], h) v hend) : XCall xM 8 152 [.ref 536, .int (nI g), .int p, .int c, .int y] h v hend := by
  have tg := nI_toInt (n := g) (by omega)
  refine msh_h 5 hB hG f2 (b := 1) (by rw [if_pos ⟨by omega, by omega⟩]) ?_
  refine XGo.go 1 rfl ?_
  refine XGo.ifn (by decide) ?_
  refine XGo.go 3 rfl ?_
  exact XGo.call _ rfl xm_X7_in rfl rfl [.int p, .int (Int32.ofInt 0), .int (Int8.ofInt 13).toInt32] [] rfl rfl (fun z => absurd rfl z) (Nat.le_of_ble_eq_true rfl) (k_in13 6 h p) k
set_option maxRecDepth 100000 in
theorem msh25 (hB : MBk h f) (W : RW f n m) (hG : G ≤ 6) (f2 : f 2 = nI G) (hg : g < G) {p c y : Int32} (hp : 0 ≤ p.toInt ∧ p.toInt ≤ 13) {v : Option Value} {hend : XH} (k : XGo 7 xm_X7_share (25, [some (.ref 536), some (.int (nI g)), some (.int p), some (.int c), some (.int y)], [.int (if isCo m c then 1 else 0)], h) v hend) : XCall xM 8 152 [.ref 536, .int (nI g), .int p, .int c, .int y] h v hend := by
  obtain ⟨hN, hS, ⟨e, o36⟩, hf, -⟩ := id hB
  refine msh15 hB hG f2 hg ?_
  rw [if_pos hp]
  refine XGo.go 1 rfl ?_
  refine XGo.ifn (by decide) ?_
  refine XGo.go 2 rfl ?_
  exact XGo.call _ rfl xm_X7_isCourse rfl rfl [.ref 536, .int c] [] rfl rfl (fun _ => ⟨536, _, rfl, o36, by decide, by omega⟩) (Nat.le_of_ble_eq_true rfl) (k_isCoM 5 hB W c) k
set_option maxRecDepth 100000 in
theorem msh36 (hB : MBk h f) (W : RW f n m) (hG : G ≤ 6) (f2 : f 2 = nI G) (hg : g < G) {p c y : Int32} (hp : 0 ≤ p.toInt ∧ p.toInt ≤ 13) (hc : isCo m c) {v : Option Value} {hend : XH} (k : XGo 7 xm_X7_share (36, [some (.ref 536), some (.int (nI g)), some (.int p), some (.int c), some (.int y)], [.int (if 0 ≤ y.toInt ∧ y.toInt ≤ 40 then 1 else 0)], h) v hend) : XCall xM 8 152 [.ref 536, .int (nI g), .int p, .int c, .int y] h v hend := by
  refine msh25 hB W hG f2 hg hp ?_
  rw [if_pos hc]
  refine XGo.go 1 rfl ?_
  refine XGo.ifn (by decide) ?_
  refine XGo.go 3 rfl ?_
  exact XGo.call _ rfl xm_X7_in rfl rfl [.int y, .int (Int32.ofInt 0), .int i40] [] rfl rfl (fun z => absurd rfl z) (Nat.le_of_ble_eq_true rfl) (k_in40 6 h y) k
set_option maxRecDepth 100000 in
theorem msh_bad (d : Nat) {p c y : Int32} : XGo d xm_X7_share (39, [some (.ref 536), some (.int (nI g)), some (.int p), some (.int c), some (.int y)], [], h) (some (.int i2m)) h := by
  refine XGo.go 1 rfl ?_
  exact XGo.iret _ rfl rfl .int rfl rfl
set_option maxRecDepth 100000 in
/-- what is answered where all is as it should be -/
theorem msh_yes (hB : MBk h f) (W : RW f n m) (hG : G ≤ 6) (f2 : f 2 = nI G) (hg : g < G) (hnc : 1 ≤ nc ∧ nc ≤ 6) (hfn : f (130 + g) = nI nc) (hC : CI f g Lt Nt nc) {p c y : Int32} (hp : 0 ≤ p.toInt ∧ p.toInt ≤ 13) (hc : isCo m c) (hy : 0 ≤ y.toInt ∧ y.toInt ≤ 40) : ∃ h1 : XH, XCall xM 8 152 [.ref 536, .int (nI g), .int p, .int c, .int y] h (some (.int (if (hsX f n m c g nc y.toNatClampNeg >>> (p &&& 31)) &&& Int32.ofInt 1 = 0 then Int32.ofInt 0 else c1S (hsX f n m c g nc y.toNatClampNeg) 14))) h1 ∧ h1.2.2 537 = .inr (.inl (0, 490, f)) ∧ ∀ z, z < 536 → h1.2.2 z = h.2.2 z := by
  obtain ⟨hN, hS, ⟨e, o36⟩, hf, -⟩ := id hB
  obtain ⟨h2, cC, hB2, -, ⟨ho, o43, eho⟩, -, -, oth⟩ := M_goes hB W (show g < 6 by omega) hnc hfn hC c
  obtain ⟨hN2, -, ⟨e2, o362⟩, hf2, -⟩ := id hB2
  obtain ⟨yn, yl⟩ := i32_nI hy.1 hy.2
  have yl : y.toNatClampNeg < 41 := by omega
  have qy := ia_nI o43 (xlt hN2 (by decide)) yl (by decide)
  rw [← yn] at qy
  refine ⟨h2, msh36 hB W hG f2 hg hp hc ?_, hf2, fun z hz => oth z (by omega) (by omega)⟩
  rw [if_pos hy, ← eho _ yl]
  generalize ho y.toNatClampNeg = t at qy ⊢
  refine XGo.go 1 rfl ?_
  refine XGo.ifn (by decide) ?_
  refine XGo.go 3 rfl ?_
  refine XGo.call _ rfl xm_X7_goes rfl rfl [.ref 536, .int (nI g), .int c] [] rfl rfl (fun _ => ⟨536, _, rfl, o36, by decide, by omega⟩) (Nat.le_of_ble_eq_true rfl) cC ?_
  refine XGo.go 1 rfl ?_
  refine XGo.getf rfl (xfd_o o362 (xlt hN2 (by decide)) (by decide) rfl) ?_
  refine XGo.go 1 rfl ?_
  refine XGo.iald rfl qy ?_
  refine XGo.go 6 rfl ?_
  by_cases z : (t >>> (p &&& 31)) &&& Int32.ofInt 1 = 0
  · rw [if_pos z]
    refine XGo.ifn (fun w => absurd (z.symm.trans w) (by decide)) ?_
    refine XGo.go 1 rfl ?_
    exact XGo.iret _ rfl rfl .int rfl rfl
  · rw [if_neg z]
    refine XGo.ifp (sh_b1p hp z) ?_
    refine XGo.go 1 rfl ?_
    refine XGo.getf rfl (xfd_o o362 (xlt hN2 (by decide)) (by decide) rfl) ?_
    refine XGo.go 1 rfl ?_
    refine XGo.iald rfl qy ?_
    refine XGo.call _ rfl xm_X7_count1 rfl rfl [.int t] [] rfl rfl (fun z => absurd rfl z) (Nat.le_of_ble_eq_true rfl) (k_c1 6 h2 _) ?_
    refine XGo.go 1 rfl ?_
    exact XGo.iret _ rfl rfl .int rfl rfl
set_option maxRecDepth 100000 in
theorem k_msh (hB : MBk h f) (W : RW f n m) (hG : G ≤ 6) (f2 : f 2 = nI G) (hg : g < G) (hnc : 1 ≤ nc ∧ nc ≤ 6) (hfn : f (130 + g) = nI nc) (hC : CI f g Lt Nt nc) (p c y : Int32) : ∃ h1 : XH, XCall xM 8 152 [.ref 536, .int (nI g), .int p, .int c, .int y] h (some (.int (shX f n m g nc p c y))) h1 ∧ h1.2.2 537 = .inr (.inl (0, 490, f)) ∧ ∀ z, z < 536 → h1.2.2 z = h.2.2 z := by
  obtain ⟨hN, hS, ⟨e, o36⟩, hf, -⟩ := id hB
  unfold shX
  by_cases hp : 0 ≤ p.toInt ∧ p.toInt ≤ 13
  · rw [if_neg (fun q => q hp)]
    by_cases hc : isCo m c
    · by_cases hy : 0 ≤ y.toInt ∧ y.toInt ≤ 40
      · rw [if_neg (fun q => q ⟨hc, hy⟩)]
        exact msh_yes hB W hG f2 hg hnc hfn hC hp hc hy
      · rw [if_pos (fun q => hy q.2)]
        refine ⟨h, msh36 hB W hG f2 hg hp hc ?_, hf, fun _ _ => rfl⟩
        rw [if_neg hy]
        refine XGo.go 1 rfl ?_
        exact XGo.ifp rfl (msh_bad _)
    · rw [if_pos (fun q => hc q.1)]
      refine ⟨h, msh25 hB W hG f2 hg hp ?_, hf, fun _ _ => rfl⟩
      rw [if_neg hc]
      refine XGo.go 1 rfl ?_
      exact XGo.ifp rfl (msh_bad _)
  · rw [if_pos hp]
    refine ⟨h, msh15 hB hG f2 hg ?_, hf, fun _ _ => rfl⟩
    rw [if_neg hp]
    refine XGo.go 1 rfl ?_
    refine XGo.ifp rfl ?_
    refine XGo.go 1 rfl ?_
    exact XGo.iret _ rfl rfl .int rfl rfl
end SX
/-- SHARE ON BOTH SIDES -/
theorem G_share (gr p c y : Int32) {L : Nat} {xs : Nat → Int32} {h : XH} (hI : INVg L xs h) : ∃ (v : Int32) (h1 h2 : XH), XCall xM 11 72 [.ref 13, .int gr, .int p, .int c, .int y] h (some (.int v)) h1 ∧ AInv w_W h1 ∧ h1.2.2 1 = h.2.2 1 ∧ XCall xM 11 152 [.ref 536, .int gr, .int p, .int c, .int y] h1 (some (.int v)) h2 ∧ INVg L xs h2 := by
  obtain ⟨f, n, m, G, T, fw, hf, W, hH, hG, f2, h3, hg⟩ := G_ctx hI
  rcases gr_dec hG gr with hb | ⟨g, hgG, rfl⟩
  · have hB := mbk_of hI.1.1 hf
    refine ⟨m1, h, h, XCall.up (by decide) (csh_h 0 hI.1.1 (k_gNo 0 hH hG hb) hH ?_), hI.1.1, rfl, XCall.up (by decide) (msh_h 0 hB hG f2 (b := 0) (by rw [if_neg hb]) ?_), hI⟩
    · refine XGo.go 4 rfl ?_
      exact XGo.iret _ rfl rfl .int rfl rfl
    · refine XGo.go 1 rfl ?_
      refine XGo.ifp rfl ?_
      refine XGo.go 1 rfl ?_
      exact XGo.iret _ rfl rfl .int rfl rfl
  · obtain ⟨nc, Lt, Nt, hnc, hCG, hfn, hC⟩ := hg g hgG
    obtain ⟨h1, c1, hI1, o1⟩ := k_csh hI hf W hH hG h3 hgG hnc hCG hC p c y
    have hf1 := o1.trans hf
    obtain ⟨h2, c2, hf2, o2⟩ := k_msh (mbk_of hI1.1.1 hf1) W hG f2 hgG hnc hfn hC p c y
    refine ⟨_, h1, h2, XCall.up (by decide) c1, hI1.1.1, XCall.ext _ _ _ _ _ _ c1 (by rw [hI.1.1.1]; decide) 1 (by decide), XCall.up (by decide) c2, ?_⟩
    exact G_fin h_937 (by decide +kernel) rfl (by decide +kernel) (by decide +kernel) (by decide +kernel) (gal536 (galT _ (galT p (galT c (galT y gal0))))) hI1 c2 hf1 hf2 o2
