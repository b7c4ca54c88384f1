/-! told on both sides; what every question of a grant begins with -/
theorem G_ctx {L : Nat} {xs : Nat → Int32} {h : XH} (hI : INVg L xs h) : ∃ (f : Nat → Int32) (n m G T : Nat) (fw : List Value), h.2.2 537 = .inr (.inl (0, 490, f)) ∧ RW f n m ∧ GH h fw G T ∧ G ≤ 6 ∧ f 2 = nI G ∧ rd h 14 3 = some (.int (nI m)) ∧ ∀ g, g < G → ∃ (nc : Nat) (Lt Nt : Nat → Int32), (1 ≤ nc ∧ nc ≤ 6) ∧ CG h (24 + 3 * g) (nI nc) Lt Nt ∧ f (130 + g) = nI nc ∧ CI f g Lt Nt nc := by
  obtain ⟨f, n, m, -, hf, W, -⟩ := G_base hI
  obtain ⟨G, T, fw, hH, ⟨hG, hT⟩, f2, f4, ht, hg⟩ := gh_of2 hI hf
  exact ⟨f, n, m, G, T, fw, hf, W, hH, hG, f2, rd3_of hI hf W, fun g hgG => cg_of hI.1.1 hI.2.2.2.1 (by omega) (hg g hgG)⟩
/-- the model's call behind the class's, the row as it was -/
theorem G_fin {c : ACt} (hc : AHp w_W w_P c) (ho : aints c.1.2.2.1 = true) (hm : c.2.1 = []) (hv : vsafe c.1.2.2.2.1 = true) (hs : ssafe c.1.2.2.2.1 = true) (hk : gsafeK c.1.2.2.2.1 = true) {as : List Value} (ha : gal w_W c.1.2.1 as) {L : Nat} {xs : Nat → Int32} {h1 h2 : XH} (hI1 : INVg L xs h1) {v : Option Value} {e : Nat} (c2 : XCall xM e c.1.1 as h1 v h2) {f : Nat → Int32} (hf1 : h1.2.2 537 = .inr (.inl (0, 490, f))) (hf2 : h2.2.2 537 = .inr (.inl (0, 490, f))) (o2 : ∀ z, z < 536 → h2.2.2 z = h1.2.2 z) : INVg L xs h2 := by
  obtain ⟨hw1, gW1, gK1, gS1, gB1⟩ := hI1
  obtain ⟨hw2, gK2, gS2, gB2, x2⟩ := G_mid hc ho hm hv hs hk ha hw1 gK1 gS1 gB1 c2
  refine ⟨hw2, gr_pl gW1 fun z hz => ?_, gK2, gS2, gB2⟩
  by_cases z5 : z = 537
  · rw [z5, hf1, hf2]
  · exact o2 z (by omega)
/-- how many numbers there are -/
def plN (o : Nat ⊕ Nat) : Int32 := match o with
  | .inl n => nI n
  | .inr _ => Int32.ofInt 0
section CN
variable {H : XH} {p nc : Nat} {Lt Nt : Nat → Int32} {f : Nat → Int32} {g : Nat}
abbrev pnL (p n r : Nat) : XL := [some (.ref p), some (.int (nI n)), some (.int (nI r))]
theorem nI4 {nc : Nat} (hnc : nc ≤ 6) : nI nc * Int32.ofInt 4 = nI (4 * nc) := by
  have t : ∀ c : Fin 7, nI c.val * Int32.ofInt 4 = nI (4 * c.val) := by decide +kernel
  exact t ⟨nc, by omega⟩
set_option maxRecDepth 100000 in
theorem pn_s (d : Nat) (hN : H.1 = 549) (hG : CG H p (nI nc) Lt Nt) (hp : 13 ≤ p ∧ p + 2 < 549) (hnc : nc ≤ 6) {n r : Nat} (hr : r < 4 * nc) {b : Bool} (e : ltN (Lt r) = b) {v : Option Value} {hend : XH} (k : XGo (d + 2) xm_X1_numbersIn (4, pnL p (if b = true then n + 1 else n) (r + 1), [], H) v hend) : XGo (d + 2) xm_X1_numbersIn (4, pnL p n r, [], H) v hend := by
  subst e
  refine XGo.go 2 rfl ?_
  refine XGo.getf rfl (xfd_o hG.1 (xlt hN (by omega)) (by omega) rfl) ?_
  refine XGo.go 2 rfl ?_
  refine XGo.top (nI4 hnc) ?_
  refine XGo.go 1 rfl ?_
  refine XGo.ifn (fun z => absurd ((xnI_ge (by omega) (by omega)).mp z) (by omega)) ?_
  refine XGo.go 2 rfl ?_
  refine XGo.call _ rfl xm_X1_isNumberAt rfl rfl [.ref p, .int (nI r)] [] rfl rfl (fun _ => ⟨p, _, rfl, hG.1, by omega, by omega⟩) (Nat.le_of_ble_eq_true rfl) (k_nAt d hN hG hp (by omega)) ?_
  refine XGo.go 1 rfl ?_
  unfold pnL at k
  rw [← show nI r + Int32.ofInt 1 = nI (r + 1) from nI_1 r] at k
  cases e : ltN (Lt r)
  · rw [e, if_neg (by decide)] at k
    refine XGo.ifp rfl ?_
    exact XGo.go 2 rfl k
  · rw [e, if_pos rfl, ← show nI n + Int32.ofInt 1 = nI (n + 1) from nI_1 n] at k
    refine XGo.ifn (by decide) ?_
    exact XGo.go 3 rfl k
theorem plS_m {q j n : Nat} (hn : n < 1000) : plS f g m1 (q + 1) j n = plS f g m1 q (j + 1) (if nmB f g j = true then n + 1 else n) := by
  cases b : nmB f g j
  · rw [plS_f b]
    rfl
  · rw [plS_n b (nI_m1 hn)]
    rfl
set_option maxRecDepth 100000 in
theorem pn_l (d : Nat) (hN : H.1 = 549) (hG : CG H p (nI nc) Lt Nt) (hp : 13 ≤ p ∧ p + 2 < 549) (hnc : nc ≤ 6) (hC : CI f g Lt Nt nc) : ∀ (q c : Nat), c + q = nc → ∀ n, n ≤ 3 * c → ∃ z, plS f g m1 (3 * q) (3 * c) n = .inl z ∧ XGo (d + 2) xm_X1_numbersIn (4, pnL p n (4 * c), [], H) (some (.int (nI z))) H
  | 0, c, hc, n, _ => by
    have hc : c = nc := by omega
    subst hc
    refine ⟨n, rfl, ?_⟩
    refine XGo.go 2 rfl ?_
    refine XGo.getf rfl (xfd_o hG.1 (xlt hN (by omega)) (by omega) rfl) ?_
    refine XGo.go 2 rfl ?_
    refine XGo.top (nI4 hnc) ?_
    refine XGo.go 1 rfl ?_
    refine XGo.ifp (Int32.le_refl _) ?_
    refine XGo.go 1 rfl ?_
    exact XGo.iret _ rfl rfl .int rfl rfl
  | q + 1, c, hc, n, hn => by
    obtain ⟨k0, k1, k2, k3⟩ := hC c (by omega)
    have le : ∀ (b : Bool) (a : Nat), (if b = true then a + 1 else a) ≤ a + 1 := fun b a => by cases b <;> simp
    rw [show 3 * (q + 1) = 3 * q + 1 + 1 + 1 by omega, plS_m (by omega)]
    have l1 := le (nmB f g (3 * c)) n
    generalize ha : (if nmB f g (3 * c) = true then n + 1 else n) = a at *
    rw [plS_m (by omega)]
    have l2 := le (nmB f g (3 * c + 1)) a
    generalize hb : (if nmB f g (3 * c + 1) = true then a + 1 else a) = b at *
    rw [plS_m (by omega)]
    have l3 := le (nmB f g (3 * c + 1 + 1)) b
    generalize hd : (if nmB f g (3 * c + 1 + 1) = true then b + 1 else b) = dd at *
    obtain ⟨z, hz, kz⟩ := pn_l d hN hG hp hnc hC q (c + 1) (by omega) dd (by omega)
    refine ⟨z, hz, ?_⟩
    refine pn_s d hN hG hp hnc (by omega) ((zcl_n k0).trans (nmB_0 f g c).symm) ?_
    rw [ha]
    refine pn_s d hN hG hp hnc (by omega) (hkl_n k1) ?_
    rw [if_neg (by decide)]
    refine pn_s d hN hG hp hnc (by omega) ((tkl_n k2).trans (nmB_1 f g c).symm) ?_
    rw [hb]
    refine pn_s d hN hG hp hnc (by omega) ((zcl_n k3).trans (nmB_2 f g c).symm) ?_
    rw [show 3 * c + 2 = 3 * c + 1 + 1 from rfl, hd]
    exact kz
end CN
/-- what told answers for a grant that is there -/
def toS (f : Nat → Int32) (g nc : Nat) (i : Int32) : Int32 :=
  if i = m1 then nI nc else if i = i2m then plN (plS f g m1 (3 * nc) 0 0) else match plS f g i (3 * nc) 0 0 with
  | .inl _ => m1
  | .inr j => f (nmW g j)
section TO
variable {h : XH} {fw : List Value} {G T : Nat} {f : Nat → Int32}
theorem cto_h (d : Nat) (hI : AInv w_W h) {gr i : Int32} {w : Value} (c58 : XCall xM (d + 1) 58 [.ref 14, .int gr] h (some w) h) (hH : GH h fw G T) {v : Option Value} {hend : XH} (k : XGo (d + 1) xm_X6_told (8, [some (.ref 13), some (.int gr), some (.int i), none, none], [w], h) v hend) : XCall xM (d + 2) 67 [.ref 13, .int gr, .int i] h v hend := by
  have hN := hH.N
  refine XCall.of (M := xm_X6_told) rfl (Nat.le_of_ble_eq_true rfl) ?_
  refine XGo.go 1 rfl ?_
  refine XGo.getr rfl hI (by decide) (by decide) w_rg_13 k13s (by decide) (r13_0 hI) ?_
  refine XGo.go 1 rfl ?_
  exact XGo.call _ rfl xm_X5_grantAt rfl rfl [.ref 14, .int gr] [] rfl rfl (fun _ => ⟨14, _, rfl, hH.o14, by decide, by omega⟩) (Nat.le_of_ble_eq_true rfl) c58 k
set_option maxRecDepth 100000 in
theorem k_cto (hI : AInv w_W h) (hH : GH h fw G T) (hG : G ≤ 6) {g nc : Nat} (hg : g < G) (hnc : 1 ≤ nc ∧ nc ≤ 6) {Lt Nt : Nat → Int32} (hCG : CG h (24 + 3 * g) (nI nc) Lt Nt) (hC : CI f g Lt Nt nc) (i : Int32) : XCall xM 5 67 [.ref 13, .int (nI g), .int i] h (some (.int (toS f g nc i))) h := by
  have hN := hH.N
  refine cto_h 3 hI (k_gAt 3 hH hg hG) hH ?_
  refine XGo.go 3 rfl ?_
  refine XGo.go 1 rfl ?_
  have z1 : m1.toInt = -1 := by decide
  have z2 : i2m.toInt = -2 := by decide
  by_cases i1 : i = m1
  · rw [show toS f g nc i = nI nc from if_pos i1]
    have e1 : i.toInt = -1 := by rw [i1]; decide
    refine XGo.lsw 28 44 rfl (by rw [e1]; decide) (by decide) (by decide) ?_
    refine XGo.go 1 rfl ?_
    refine XGo.getf rfl (xfd_o hCG.1 (xlt hN (by omega)) (by omega) rfl) ?_
    exact XGo.iret _ rfl rfl .int rfl rfl
  · by_cases i2 : i = i2m
    · rw [show toS f g nc i = plN (plS f g m1 (3 * nc) 0 0) from (if_neg i1).trans (if_pos i2)]
      have e2 : i.toInt = -2 := by rw [i2]; decide
      obtain ⟨z, hz, kz⟩ := pn_l 1 hN hCG (by omega) hnc.2 hC nc 0 (by omega) 0 (by omega)
      rw [show plS f g m1 (3 * nc) 0 0 = .inl z from hz]
      refine XGo.lsw 33 49 rfl (by rw [e2]; decide) (by decide) (by decide) ?_
      refine XGo.go 1 rfl ?_
      refine XGo.call _ rfl xm_X1_numbersIn rfl rfl [.ref (24 + 3 * g)] [] rfl rfl (fun _ => ⟨24 + 3 * g, _, rfl, hCG.1, by omega, by omega⟩) (Nat.le_of_ble_eq_true rfl) (XCall.of (d := 3) (M := xm_X1_numbersIn) rfl (Nat.le_of_ble_eq_true rfl) (XGo.go 4 rfl kz)) ?_
      exact XGo.iret _ rfl rfl .int rfl rfl
    · have n1 : ¬ i.toInt = -1 := fun e => i1 (Int32.toInt_inj.mp (by rw [e, z1]))
      have n2 : ¬ i.toInt = -2 := fun e => i2 (Int32.toInt_inj.mp (by rw [e, z2]))
      rw [show toS f g nc i = match plS f g i (3 * nc) 0 0 with
        | .inl _ => m1
        | .inr j => f (nmW g j) from (if_neg i1).trans (if_neg i2)]
      refine XGo.lsw 38 54 rfl (by
        show Op.lookupswitch.offset [((-2 : Int), 33), ((-1 : Int), 28)] 38 i.toInt = 38
        have m1 : ¬ (-1 : Int) = i.toInt := fun e => n1 e.symm
        have m2 : ¬ (-2 : Int) = i.toInt := fun e => n2 e.symm
        simp [Op.lookupswitch.offset, m1, m2]) (by decide) (by decide) ?_
      refine XGo.go 2 rfl ?_
      refine XGo.call _ rfl xm_X1_placeOfNumber rfl rfl [.ref (24 + 3 * g), .int i] [] rfl rfl (fun _ => ⟨24 + 3 * g, _, rfl, hCG.1, by omega, by omega⟩) (Nat.le_of_ble_eq_true rfl) (k_pl 1 hN hCG (by omega) hnc.2 hC i) ?_
      match hp : plS f g i (3 * nc) 0 0 with
      | .inl z =>
        refine XGo.go 3 rfl ?_
        refine XGo.ifn (show ¬ (0 : Int32) ≤ Int32.ofInt (-1) by decide) ?_
        refine XGo.go 2 rfl ?_
        exact XGo.iret _ rfl rfl .int rfl rfl
      | .inr j =>
        obtain ⟨-, hj, hb⟩ := plS_lt _ _ _ hp
        have hj : j < 3 * nc := by omega
        have hr := nmQ_in hj hnc.2
        refine XGo.go 3 rfl ?_
        refine XGo.ifp (show (0 : Int32) ≤ nI (nmQ j) from Int32.not_lt.mp (xnI_lt0 (by omega))) ?_
        refine XGo.go 1 rfl ?_
        refine XGo.getf rfl (xfd_o hCG.1 (xlt hN (by omega)) (by omega) rfl) ?_
        refine XGo.go 1 rfl ?_
        refine XGo.call _ rfl xm_X6_at rfl rfl [.ref (24 + 3 * g + 2), .int (nI (nmQ j))] [] rfl rfl (fun z => absurd rfl z) (Nat.le_of_ble_eq_true rfl) (at_row (d := 3) hCG.2.2 (xlt hN (by omega)) (by decide) hr) ?_
        rw [(num_at hC hj hb).1]
        exact XGo.iret _ rfl rfl .int rfl rfl
set_option maxRecDepth 100000 in
theorem k_mto (hB : MBk h f) (hG : G ≤ 6) (f2 : f 2 = nI G) {g nc : Nat} (hg : g < G) (hnc : 1 ≤ nc ∧ nc ≤ 6) (hfn : f (130 + g) = nI nc) (i : Int32) : XCall xM 4 132 [.ref 536, .int (nI g), .int i] h (some (.int (toS f g nc i))) h := by
  obtain ⟨hN, hS, ⟨e, o36⟩, hf, -⟩ := id hB
  have tg := nI_toInt (n := g) (by omega)
  have q := k_isGr 1 hB hG f2 (nI g)
  rw [if_pos ⟨by omega, by omega⟩] at q
  have z1 : m1.toInt = -1 := by decide
  have z2 : i2m.toInt = -2 := by decide
  have pl := fun i => k_plm 1 hN o36 hf (show g < 6 by omega) hnc.2 hfn i
  refine XCall.of (M := xm_X7_told) rfl (Nat.le_of_ble_eq_true rfl) ?_
  refine XGo.go 2 rfl ?_
  refine XGo.call _ rfl xm_X7_isGrant rfl rfl [.ref 536, .int (nI g)] [] rfl rfl (fun _ => ⟨536, _, rfl, o36, by decide, by omega⟩) (Nat.le_of_ble_eq_true rfl) q ?_
  refine XGo.go 1 rfl ?_
  refine XGo.ifn (by decide) ?_
  refine XGo.go 3 rfl ?_
  by_cases b : i2m ≤ i
  · have b' := Int32.le_iff_toInt_le.mp b
    refine XGo.ifp b ?_
    refine XGo.go 2 rfl ?_
    by_cases b0 : (0 : Int32) ≤ i
    · have b0' := Int32.le_iff_toInt_le.mp b0
      rw [z0_int] at b0'
      have i1 : ¬ i = m1 := fun e => by rw [e, z1] at b0'; omega
      have i2 : ¬ i = i2m := fun e => by rw [e, z2] at b0'; omega
      rw [show toS f g nc i = match plS f g i (3 * nc) 0 0 with
        | .inl _ => m1
        | .inr j => f (nmW g j) from (if_neg i1).trans (if_neg i2)]
      refine XGo.ifp b0 ?_
      refine XGo.go 3 rfl ?_
      refine XGo.call _ rfl xm_X7_placeOf rfl rfl [.ref 536, .int (nI g), .int i] [] rfl rfl (fun _ => ⟨536, _, rfl, o36, by decide, by omega⟩) (Nat.le_of_ble_eq_true rfl) (pl i) ?_
      refine XGo.go 4 rfl ?_
      match hp : plS f g i (3 * nc) 0 0 with
      | .inl z =>
        rw [show plM g i (.inl z) = m1 from if_neg i1]
        refine XGo.ifp rfl ?_
        refine XGo.go 2 rfl ?_
        exact XGo.iret _ rfl rfl .int rfl rfl
      | .inr j =>
        obtain ⟨-, hj, hb⟩ := plS_lt _ _ _ hp
        have hj : j < 3 * nc := by omega
        obtain ⟨w1, w2⟩ := nmW_in hj hnc.2 (show g < 6 by omega)
        refine XGo.ifn (show ¬ nI (nmW g j) = Int32.ofInt (-1) from nI_m1 (by omega)) ?_
        refine XGo.go 1 rfl ?_
        refine XGo.getf rfl (xfd_o o36 (xlt hN (by decide)) (by decide) rfl) ?_
        refine XGo.go 1 rfl ?_
        refine XGo.iald rfl (ia_nI hf (xlt hN (by decide)) (show nmW g j < 490 by omega) (by decide)) ?_
        exact XGo.iret _ rfl rfl .int rfl rfl
    · have b0' : i.toInt < 0 := by
        have := Int32.lt_iff_toInt_lt.mp (Int32.not_le.mp b0)
        rw [z0_int] at this
        exact this
      rw [z2] at b'
      refine XGo.ifn b0 ?_
      refine XGo.go 3 rfl ?_
      by_cases i1 : i = m1
      · rw [show toS f g nc i = nI nc from if_pos i1]
        refine XGo.ifp i1 ?_
        refine XGo.go 1 rfl ?_
        refine XGo.getf rfl (xfd_o o36 (xlt hN (by decide)) (by decide) rfl) ?_
        refine XGo.go 3 rfl ?_
        refine XGo.top (c130 ⟨g, by omega⟩) ?_
        refine XGo.iald rfl (ia_nI hf (xlt hN (by decide)) (show 130 + g < 490 by omega) (by decide)) ?_
        rw [hfn]
        refine XGo.go 1 rfl ?_
        exact XGo.iret _ rfl rfl .int rfl rfl
      · have n1 : ¬ i.toInt = -1 := fun e => i1 (Int32.toInt_inj.mp (by rw [e, z1]))
        have i2 : i = i2m := Int32.toInt_inj.mp (by rw [z2]; omega)
        rw [show toS f g nc i = plN (plS f g m1 (3 * nc) 0 0) from (if_neg i1).trans (if_pos i2)]
        have em : plM g m1 (plS f g m1 (3 * nc) 0 0) = plN (plS f g m1 (3 * nc) 0 0) := by
          obtain ⟨z, hz⟩ := plS_neg (f := f) (g := g) (i := m1) (by decide) (3 * nc) 0 0 (by omega)
          rw [hz]
          exact (if_pos rfl : (if m1 = Int32.ofInt (-1) then nI z else Int32.ofInt (-1)) = nI z)
        refine XGo.ifn i1 ?_
        refine XGo.go 3 rfl ?_
        have p2 := pl m1
        rw [em] at p2
        refine XGo.call _ rfl xm_X7_placeOf rfl rfl [.ref 536, .int (nI g), .int m1] [] rfl rfl (fun _ => ⟨536, _, rfl, o36, by decide, by omega⟩) (Nat.le_of_ble_eq_true rfl) p2 ?_
        exact XGo.iret _ rfl rfl .int rfl rfl
  · have b' := Int32.lt_iff_toInt_lt.mp (Int32.not_le.mp b)
    rw [z2] at b'
    have i1 : ¬ i = m1 := fun e => by rw [e, z1] at b'; omega
    have i2 : ¬ i = i2m := fun e => by rw [e, z2] at b'; omega
    obtain ⟨z, hz⟩ := plS_neg (f := f) (g := g) (i := i) (lt0_iff.mpr (by omega)) (3 * nc) 0 0 (by omega)
    rw [show toS f g nc i = match plS f g i (3 * nc) 0 0 with
        | .inl _ => m1
        | .inr j => f (nmW g j) from (if_neg i1).trans (if_neg i2), hz]
    refine XGo.ifn b ?_
    refine XGo.go 1 rfl ?_
    exact XGo.iret _ rfl rfl .int rfl rfl
end TO
/-- TOLD ON BOTH SIDES -/
theorem G_told (gr i : Int32) {L : Nat} {xs : Nat → Int32} {h : XH} (hI : INVg L xs h) : ∃ (v : Int32) (h1 h2 : XH), XCall xM 11 67 [.ref 13, .int gr, .int i] h (some (.int v)) h1 ∧ AInv w_W h1 ∧ h1.2.2 1 = h.2.2 1 ∧ XCall xM 11 132 [.ref 536, .int gr, .int i] h1 (some (.int v)) h2 ∧ INVg L xs h2 := by
  obtain ⟨f, n, m, G, T, fw, hf, W, hH, hG, f2, h3, hg⟩ := G_ctx hI
  have hB := mbk_of hI.1.1 hf
  rcases gr_dec hG gr with hb | ⟨g, hgG, rfl⟩
  · refine ⟨m1, h, h, XCall.up (by decide) (cto_h 0 hI.1.1 (k_gNo 0 hH hG hb) hH ?_), hI.1.1, rfl, XCall.up (by decide) (XCall.of (d := 2) (M := xm_X7_told) rfl (Nat.le_of_ble_eq_true rfl) ?_), hI⟩
    · refine XGo.go 4 rfl ?_
      exact XGo.iret _ rfl rfl .int rfl rfl
    · obtain ⟨hN, hS, ⟨e, o36⟩, hf, -⟩ := id hB
      have q := k_isGr 0 hB hG f2 gr
      rw [if_neg hb] at q
      refine XGo.go 2 rfl ?_
      refine XGo.call _ rfl xm_X7_isGrant rfl rfl [.ref 536, .int gr] [] rfl rfl (fun _ => ⟨536, _, rfl, o36, by decide, by omega⟩) (Nat.le_of_ble_eq_true rfl) q ?_
      refine XGo.go 1 rfl ?_
      refine XGo.ifp rfl ?_
      refine XGo.go 1 rfl ?_
      exact XGo.iret _ rfl rfl .int rfl rfl
  · obtain ⟨nc, Lt, Nt, hnc, hCG, hfn, hC⟩ := hg g hgG
    exact ⟨toS f g nc i, h, h, XCall.up (by decide) (k_cto hI.1.1 hH hG hgG hnc hCG hC i), hI.1.1, rfl, XCall.up (by decide) (k_mto hB hG f2 hgG hnc hfn i), hI⟩
/-! has and began on both sides -/
/-- what a run of the class leaves -/
abbrev RunA (h1 : XH) (f : Nat → Int32) (n m : Nat) (co : Int32) (g nc : Nat) : Prop :=
  (∃ c r b hv : Int32, h1.2.2 71 = .inl (4, [.ref 72, .ref 73, .ref 74, .int c, .int r, .int b, .int hv])) ∧
  (∃ ho : Nat → Int32, h1.2.2 72 = .inr (.inl (0, 41, ho)) ∧ ∀ j, j < 41 → ho j = hsX f n m co g nc j) ∧
  (∃ cl : Nat → Int32, h1.2.2 73 = .inr (.inl (0, 41, cl)) ∧ ∀ j, j < 41 → cl j = hcX f n m co g nc j) ∧
  (∃ bg : Nat → Int32, h1.2.2 74 = .inr (.inl (0, 6, bg)) ∧ ∀ j, j < 6 → bg j = bgX f n m co g nc j)
/-- a grant run in a course, the class's side -/
theorem G_crun {L : Nat} {xs : Nat → Int32} {h : XH} (hI : INVg L xs h) {f : Nat → Int32} {n m : Nat} (hf : h.2.2 537 = .inr (.inl (0, 490, f))) (W : RW f n m) {g nc : Nat} {Lt Nt : Nat → Int32} (hg : g < 6) (hnc : 1 ≤ nc ∧ nc ≤ 6) (hCG : CG h (24 + 3 * g) (nI nc) Lt Nt) (hC : CI f g Lt Nt nc) {c : Int32} (h0 : 0 ≤ c.toInt) (h6 : c.toInt ≤ 63) :
    ∃ (k : Nat) (h1 h2 : XH), XCall xM 5 97 [.ref 13, .int c] h (some (.ref (88 + 7 * k))) h1 ∧ (∃ fs : List Value, h1.2.2 71 = .inl (4, fs) ∧ 71 < h1.1) ∧ XCall xM 6 43 [.ref 71, .ref (24 + 3 * g), .ref (88 + 7 * k)] h1 none h2 ∧ INVg L xs h2 ∧ RunA h2 f n m c g nc ∧ ∀ z, (z < 71 ∨ (74 < z ∧ z < 88) ∨ 535 < z) → h2.2.2 z = h.2.2 z := by
  obtain ⟨⟨r1, -, -⟩, -⟩ := w_rg_g ⟨g, hg⟩
  obtain ⟨k, h1, hk, cC, hI1, oC, hL⟩ := G_course hI hf W h0 h6
  have hCG1 : CG h1 (24 + 3 * g) (nI nc) Lt Nt := ⟨(oC _ (by omega)).trans hCG.1, (oC _ (by omega)).trans hCG.2.1, (oC _ (by omega)).trans hCG.2.2⟩
  obtain ⟨h2, cR, hI2, R⟩ := G_runa h_118 rfl rfl rfl (by decide +kernel) (by decide +kernel) hI1 hk W hL hCG1 (by omega) (by omega) r1 hnc hC
  obtain ⟨c7, r7, b7, v7, ho7, cl7, bg7, h71, -⟩ := run_ofa hI1.1.1
  exact ⟨k, h1, h2, cC, ⟨_, h71, by rw [hI1.1.1.1]; decide⟩, cR, hI2, ⟨R.o, R.ho, R.cl, R.bg⟩, fun z hz => (R.oth z (by omega)).trans (oC z (by omega))⟩
theorem isCo63 {m : Nat} (hm : m ≤ 6) {c : Int32} (h : isCo m c) : 0 ≤ c.toInt ∧ c.toInt ≤ 63 := by
  have := shm_le ⟨m, by omega⟩
  have := h.2
  dsimp only at *
  exact ⟨h.1, by omega⟩
/-- what has answers for a grant that is there -/
def haS (f : Nat → Int32) (n m g nc : Nat) (c y w : Int32) : Int32 := if ¬ (0 ≤ w.toInt ∧ w.toInt ≤ 1) then m1 else if ¬ (isCo m c ∧ 0 ≤ y.toInt ∧ y.toInt ≤ 40) then i2m else if w = 0 then hsX f n m c g nc y.toNatClampNeg else hcX f n m c g nc y.toNatClampNeg
section HA
variable {L : Nat} {xs : Nat → Int32} {h : XH} {fw : List Value} {G T : Nat} {f : Nat → Int32} {n m : Nat}
abbrev haL (gr c y w : Int32) (l5 : Option Value) : XL := [some (.ref 13), some (.int gr), some (.int c), some (.int y), some (.int w), l5]
theorem cha_h (d : Nat) (hI : AInv w_W h) {gr c y w : Int32} {u : Value} (c58 : XCall xM (d + 1) 58 [.ref 14, .int gr] h (some u) h) (hH : GH h fw G T) {v : Option Value} {hend : XH} (k : XGo (d + 1) xm_X6_has (8, haL gr c y w none, [u], h) v hend) : XCall xM (d + 2) 68 [.ref 13, .int gr, .int c, .int y, .int w] h v hend := by
  have hN := hH.N
  refine XCall.of (M := xm_X6_has) rfl (Nat.le_of_ble_eq_true rfl) ?_
  refine XGo.go 1 rfl ?_
  refine XGo.getr rfl hI (by decide) (by decide) w_rg_13 k13s (by decide) (r13_0 hI) ?_
  refine XGo.go 1 rfl ?_
  exact XGo.call _ rfl xm_X5_grantAt rfl rfl [.ref 14, .int gr] [] rfl rfl (fun _ => ⟨14, _, rfl, hH.o14, by decide, by omega⟩) (Nat.le_of_ble_eq_true rfl) c58 k
set_option maxRecDepth 100000 in
theorem k_cha (hI : INVg L xs h) (hf : h.2.2 537 = .inr (.inl (0, 490, f))) (W : RW f n m) (hH : GH h fw G T) (hG : G ≤ 6) (h3 : rd h 14 3 = some (.int (nI m))) {g nc : Nat} (hg : g < G) (hnc : 1 ≤ nc ∧ nc ≤ 6) {Lt Nt : Nat → Int32} (hCG : CG h (24 + 3 * g) (nI nc) Lt Nt) (hC : CI f g Lt Nt nc) (c y w : Int32) : ∃ h1 : XH, XCall xM 8 68 [.ref 13, .int (nI g), .int c, .int y, .int w] h (some (.int (haS f n m g nc c y w))) h1 ∧ INVg L xs h1 ∧ ∀ z, (z < 71 ∨ (74 < z ∧ z < 88) ∨ 535 < z) → h1.2.2 z = h.2.2 z := by
  have hN := hH.N
  have m6 := W.m6
  obtain ⟨fs, h13, -, -, -⟩ := w_lg hI.1.1
  have rc : ∀ {as : List Value} {M : XMeth}, xmC M = 6 → as.head? = some (.ref 13) → xrecv M as h := fun hM ha _ => ⟨13, fs, ha, by rw [hM]; exact h13, by decide, by omega⟩
  have head := @cha_h h fw G T 6 hI.1.1 (nI g) c y w _ (k_gAt 6 hH hg hG) hH
  have e1 : (Int32.ofInt 1).toInt = 1 := by decide
  unfold haS
  have bad1 : ¬ (0 ≤ w.toInt ∧ w.toInt ≤ 1) → XGo 7 xm_X6_has (26, haL (nI g) c y w (some (.ref (24 + 3 * g))), [], h) (some (.int m1)) h := fun _ => by
    refine XGo.go 1 rfl ?_
    exact XGo.iret _ rfl rfl .int rfl rfl
  have bad2 : XGo 7 xm_X6_has (43, haL (nI g) c y w (some (.ref (24 + 3 * g))), [], h) (some (.int i2m)) h := by
    refine XGo.go 1 rfl ?_
    exact XGo.iret _ rfl rfl .int rfl rfl
  by_cases hw : 0 ≤ w.toInt ∧ w.toInt ≤ 1
  · rw [if_neg (fun q => q hw)]
    have to28 : ∀ {v : Option Value} {hend : XH}, XGo 7 xm_X6_has (28, haL (nI g) c y w (some (.ref (24 + 3 * g))), [], h) v hend → XCall xM 8 68 [.ref 13, .int (nI g), .int c, .int y, .int w] h v hend := fun {v hend} k => by
      refine head ?_
      refine XGo.go 5 rfl ?_
      refine XGo.ifn (fun q => by have := lt0_iff.mp q; omega) ?_
      refine XGo.go 3 rfl ?_
      exact XGo.ifp (Int32.le_iff_toInt_le.mpr (by rw [e1]; exact hw.2)) k
    have qc := k_isCo 5 hI.1.1 m6 h3 c
    by_cases hc : isCo m c
    · rw [if_pos hc] at qc
      have to36 : ∀ {v : Option Value} {hend : XH}, XGo 7 xm_X6_has (40, haL (nI g) c y w (some (.ref (24 + 3 * g))), [.int (if 0 ≤ y.toInt ∧ y.toInt ≤ 40 then 1 else 0)], h) v hend → XCall xM 8 68 [.ref 13, .int (nI g), .int c, .int y, .int w] h v hend := fun {v hend} k => by
        refine to28 ?_
        refine XGo.go 2 rfl ?_
        refine XGo.call _ rfl xm_X6_isCourse rfl rfl [.ref 13, .int c] [] rfl rfl (rc rfl rfl) (Nat.le_of_ble_eq_true rfl) qc ?_
        refine XGo.go 1 rfl ?_
        refine XGo.ifn (by decide) ?_
        refine XGo.go 1 rfl ?_
        exact XGo.call _ rfl xm_X6_isYear rfl rfl [.int y] [] rfl rfl (fun z => absurd rfl z) (Nat.le_of_ble_eq_true rfl) (k_isYear 6 h y) k
      by_cases hy : 0 ≤ y.toInt ∧ y.toInt ≤ 40
      · rw [if_neg (fun q => q ⟨hc, hy⟩)]
        obtain ⟨c0, c63⟩ := isCo63 m6 hc
        obtain ⟨k, h1, h2, cC, ⟨fs71, e71, l71⟩, cR, hI2, ⟨⟨_, _, _, _, o71⟩, ⟨ho, o72, eho⟩, ⟨cl, o73, ecl⟩, -⟩, oth⟩ := G_crun hI hf W (show g < 6 by omega) hnc hCG hC c0 c63
        have hN2 : h2.1 = 549 := hI2.1.1.1
        obtain ⟨yn, yl⟩ := i32_nI hy.1 hy.2
        have yl : y.toNatClampNeg < 41 := by omega
        refine ⟨h2, to36 ?_, hI2, oth⟩
        rw [if_pos hy]
        refine XGo.go 1 rfl ?_
        refine XGo.ifn (by decide) ?_
        refine XGo.go 1 rfl ?_
        refine XGo.getr rfl hI.1.1 (by decide) (by decide) w_rg_13 k13s (by decide) (r13_4 hI.1.1) ?_
        refine XGo.go 3 rfl ?_
        refine XGo.call _ rfl xm_X6_courseOf rfl rfl [.ref 13, .int c] [.ref (24 + 3 * g), .ref 71] rfl rfl (rc rfl rfl) (Nat.le_of_ble_eq_true rfl) (XCall.up (by decide) cC) ?_
        refine XGo.call _ rfl xm_X4_go rfl rfl [.ref 71, .ref (24 + 3 * g), .ref (88 + 7 * k)] [] rfl rfl (fun _ => ⟨71, _, rfl, e71, by decide, l71⟩) (Nat.le_of_ble_eq_true rfl) (XCall.up (by decide) cR) ?_
        refine XGo.go 2 rfl ?_
        by_cases w0 : w = 0
        · rw [show (if w = 0 then hsX f n m c g nc y.toNatClampNeg else hcX f n m c g nc y.toNatClampNeg) = hsX f n m c g nc y.toNatClampNeg from if_pos w0, ← eho _ yl]
          refine XGo.ifp w0 ?_
          refine XGo.go 1 rfl ?_
          refine XGo.getr rfl hI2.1.1 (by decide) (by decide) w_rg_13 k13s (by decide) (r13_4 hI2.1.1) ?_
          refine XGo.getf rfl (xfd_o o71 (xlt hN2 (by decide)) (by decide) rfl) ?_
          refine XGo.go 2 rfl ?_
          have q := at_row (H := h2) (d := 6) o72 (xlt hN2 (by decide)) (by decide) yl
          rw [← yn] at q
          refine XGo.call _ rfl xm_X6_at rfl rfl [.ref 72, .int y] [] rfl rfl (fun z => absurd rfl z) (Nat.le_of_ble_eq_true rfl) q ?_
          exact XGo.iret _ rfl rfl .int rfl rfl
        · rw [show (if w = 0 then hsX f n m c g nc y.toNatClampNeg else hcX f n m c g nc y.toNatClampNeg) = hcX f n m c g nc y.toNatClampNeg from if_neg w0, ← ecl _ yl]
          refine XGo.ifn w0 ?_
          refine XGo.go 1 rfl ?_
          refine XGo.getr rfl hI2.1.1 (by decide) (by decide) w_rg_13 k13s (by decide) (r13_4 hI2.1.1) ?_
          refine XGo.getf rfl (xfd_o o71 (xlt hN2 (by decide)) (by decide) rfl) ?_
          refine XGo.go 1 rfl ?_
          have q := at_row (H := h2) (d := 6) o73 (xlt hN2 (by decide)) (by decide) yl
          rw [← yn] at q
          refine XGo.call _ rfl xm_X6_at rfl rfl [.ref 73, .int y] [] rfl rfl (fun z => absurd rfl z) (Nat.le_of_ble_eq_true rfl) q ?_
          exact XGo.iret _ rfl rfl .int rfl rfl
      · rw [if_pos (fun q => hy q.2)]
        refine ⟨h, to36 ?_, hI, fun _ _ => rfl⟩
        rw [if_neg hy]
        refine XGo.go 1 rfl ?_
        exact XGo.ifp rfl bad2
    · rw [if_neg hc] at qc
      rw [if_pos (fun q => hc q.1)]
      refine ⟨h, to28 ?_, hI, fun _ _ => rfl⟩
      refine XGo.go 2 rfl ?_
      refine XGo.call _ rfl xm_X6_isCourse rfl rfl [.ref 13, .int c] [] rfl rfl (rc rfl rfl) (Nat.le_of_ble_eq_true rfl) qc ?_
      refine XGo.go 1 rfl ?_
      exact XGo.ifp rfl bad2
  · rw [if_pos hw]
    refine ⟨h, head ?_, hI, fun _ _ => rfl⟩
    refine XGo.go 5 rfl ?_
    by_cases w0 : w < 0
    · exact XGo.ifp w0 (bad1 hw)
    · have e0 : ¬ w.toInt < 0 := fun q => w0 (lt0_iff.mpr q)
      refine XGo.ifn w0 ?_
      refine XGo.go 3 rfl ?_
      exact XGo.ifn (fun q => hw ⟨by omega, by have := Int32.le_iff_toInt_le.mp q; rw [e1] at this; exact this⟩) (bad1 hw)
set_option maxRecDepth 100000 in
theorem mha_h (d : Nat) (hB : MBk h f) (hG : G ≤ 6) (f2 : f 2 = nI G) {gr c y w : Int32} {b : Int32} (hb : b = if 0 ≤ gr.toInt ∧ gr.toInt < (G : Int) then 1 else 0) {v : Option Value} {hend : XH} (k : XGo (d + 2) xm_X7_has (5, [some (.ref 536), some (.int gr), some (.int c), some (.int y), some (.int w)], [.int b], h) v hend) : XCall xM (d + 3) 147 [.ref 536, .int gr, .int c, .int y, .int w] h v hend := by
  obtain ⟨hN, hS, ⟨e, o36⟩, hf, -⟩ := id hB
  have q := k_isGr d hB hG f2 gr
  rw [← hb] at q
  refine XCall.of (M := xm_X7_has) rfl (Nat.le_of_ble_eq_true rfl) ?_
  refine XGo.go 2 rfl ?_
  exact XGo.call _ rfl xm_X7_isGrant rfl rfl [.ref 536, .int gr] [] rfl rfl (fun _ => ⟨536, _, rfl, o36, by decide, by omega⟩) (Nat.le_of_ble_eq_true rfl) q k
theorem k_in01 (d : Nat) (h : XH) (x : Int32) : XCall xM (d + 1) 107 [.int x, .int (Int32.ofInt 0), .int (Int32.ofInt 1)] h (some (.int (if 0 ≤ x.toInt ∧ x.toInt ≤ 1 then 1 else 0))) h := by
  have q := k_inI d h x (Int32.ofInt 0) (Int32.ofInt 1)
  rw [show (Int32.ofInt 0).toInt = 0 by decide, show (Int32.ofInt 1).toInt = 1 by decide] at q
  exact q
theorem k_isCoM (d : Nat) (hB : MBk h f) (W : RW f n m) (c : Int32) : XCall xM (d + 2) 110 [.ref 536, .int c] h (some (.int (if isCo m c then 1 else 0))) h := by
  obtain ⟨hN, hS, ⟨e, o36⟩, hf, -⟩ := id hB
  exact k_isCo7 d hN o36 rfl hf W.m6 W.f1 c
set_option maxRecDepth 100000 in
theorem k_mha (hB : MBk h f) (W : RW f n m) (hG : G ≤ 6) (f2 : f 2 = nI G) {g nc : Nat} (hg : g < G) (hnc : 1 ≤ nc ∧ nc ≤ 6) (hfn : f (130 + g) = nI nc) {Lt Nt : Nat → Int32} (hC : CI f g Lt Nt nc) (c y w : Int32) : ∃ h1 : XH, XCall xM 8 147 [.ref 536, .int (nI g), .int c, .int y, .int w] h (some (.int (haS f n m g nc c y w))) h1 ∧ h1.2.2 537 = .inr (.inl (0, 490, f)) ∧ ∀ z, z < 536 → h1.2.2 z = h.2.2 z := by
  obtain ⟨hN, hS, ⟨e, o36⟩, hf, -⟩ := id hB
  have tg := nI_toInt (n := g) (by omega)
  have head := @mha_h h G f 5 hB hG f2 (nI g) c y w 1 (by rw [if_pos ⟨by omega, by omega⟩])
  have rc : ∀ {as : List Value} {M : XMeth}, xmC M = 7 → as.head? = some (.ref 536) → xrecv M as h := fun hM ha _ => ⟨536, _, ha, by rw [hM]; exact o36, by decide, by omega⟩
  have bad1 : XGo 7 xm_X7_has (18, [some (.ref 536), some (.int (nI g)), some (.int c), some (.int y), some (.int w)], [], h) (some (.int m1)) h := by
    refine XGo.go 1 rfl ?_
    exact XGo.iret _ rfl rfl .int rfl rfl
  have bad2 : XGo 7 xm_X7_has (38, [some (.ref 536), some (.int (nI g)), some (.int c), some (.int y), some (.int w)], [], h) (some (.int i2m)) h := by
    refine XGo.go 1 rfl ?_
    exact XGo.iret _ rfl rfl .int rfl rfl
  have to15 : ∀ {v : Option Value} {hend : XH}, XGo 7 xm_X7_has (15, [some (.ref 536), some (.int (nI g)), some (.int c), some (.int y), some (.int w)], [.int (if 0 ≤ w.toInt ∧ w.toInt ≤ 1 then 1 else 0)], h) v hend → XCall xM 8 147 [.ref 536, .int (nI g), .int c, .int y, .int w] h v hend := fun {v hend} k => by
    refine head ?_
    refine XGo.go 1 rfl ?_
    refine XGo.ifn (by decide) ?_
    refine XGo.go 3 rfl ?_
    exact XGo.call _ rfl xm_X7_in rfl rfl [.int w, .int (Int32.ofInt 0), .int (Int32.ofInt 1)] [] rfl rfl (fun z => absurd rfl z) (Nat.le_of_ble_eq_true rfl) (k_in01 6 h w) k
  unfold haS
  by_cases hw : 0 ≤ w.toInt ∧ w.toInt ≤ 1
  · rw [if_neg (fun q => q hw)]
    have to25 : ∀ {v : Option Value} {hend : XH}, XGo 7 xm_X7_has (25, [some (.ref 536), some (.int (nI g)), some (.int c), some (.int y), some (.int w)], [.int (if isCo m c then 1 else 0)], h) v hend → XCall xM 8 147 [.ref 536, .int (nI g), .int c, .int y, .int w] h v hend := fun {v hend} k => by
      refine to15 ?_
      rw [if_pos hw]
      refine XGo.go 1 rfl ?_
      refine XGo.ifn (by decide) ?_
      refine XGo.go 2 rfl ?_
      exact XGo.call _ rfl xm_X7_isCourse rfl rfl [.ref 536, .int c] [] rfl rfl (rc rfl rfl) (Nat.le_of_ble_eq_true rfl) (k_isCoM 5 hB W c) k
    by_cases hc : isCo m c
    · have to35 : ∀ {v : Option Value} {hend : XH}, XGo 7 xm_X7_has (35, [some (.ref 536), some (.int (nI g)), some (.int c), some (.int y), some (.int w)], [.int (if 0 ≤ y.toInt ∧ y.toInt ≤ 40 then 1 else 0)], h) v hend → XCall xM 8 147 [.ref 536, .int (nI g), .int c, .int y, .int w] h v hend := fun {v hend} k => by
        refine to25 ?_
        rw [if_pos hc]
        refine XGo.go 1 rfl ?_
        refine XGo.ifn (by decide) ?_
        refine XGo.go 3 rfl ?_
        exact XGo.call _ rfl xm_X7_in rfl rfl [.int y, .int (Int32.ofInt 0), .int i40] [] rfl rfl (fun z => absurd rfl z) (Nat.le_of_ble_eq_true rfl) (k_in40 6 h y) k
      by_cases hy : 0 ≤ y.toInt ∧ y.toInt ≤ 40
      · rw [if_neg (fun q => q ⟨hc, hy⟩)]
        obtain ⟨h2, cC, hB2, ⟨s, lr, le⟩, ⟨ho, o43, eho⟩, ⟨cl, o44, ecl⟩, -, oth⟩ := M_goes hB W (show g < 6 by omega) hnc hfn hC c
        obtain ⟨hN2, -, ⟨e2, o362⟩, hf2, -⟩ := id hB2
        obtain ⟨yn, yl⟩ := i32_nI hy.1 hy.2
        have yl : y.toNatClampNeg < 41 := by omega
        refine ⟨h2, to35 ?_, hf2, fun z hz => oth z (by omega) (by omega)⟩
        rw [if_pos hy]
        refine XGo.go 1 rfl ?_
        refine XGo.ifn (by decide) ?_
        refine XGo.go 3 rfl ?_
        refine XGo.call _ rfl xm_X7_goes rfl rfl [.ref 536, .int (nI g), .int c] [] rfl rfl (rc rfl rfl) (Nat.le_of_ble_eq_true rfl) cC ?_
        refine XGo.go 2 rfl ?_
        by_cases w0 : w = 0
        · rw [show (if w = 0 then hsX f n m c g nc y.toNatClampNeg else hcX f n m c g nc y.toNatClampNeg) = hsX f n m c g nc y.toNatClampNeg from if_pos w0, ← eho _ yl]
          refine XGo.ifp w0 ?_
          refine XGo.go 1 rfl ?_
          refine XGo.getf rfl (xfd_o o362 (xlt hN2 (by decide)) (by decide) rfl) ?_
          refine XGo.go 1 rfl ?_
          have qy := ia_nI o43 (xlt hN2 (by decide)) yl (by decide)
          rw [← yn] at qy
          refine XGo.iald rfl qy ?_
          refine XGo.go 1 rfl ?_
          exact XGo.iret _ rfl rfl .int rfl rfl
        · rw [show (if w = 0 then hsX f n m c g nc y.toNatClampNeg else hcX f n m c g nc y.toNatClampNeg) = hcX f n m c g nc y.toNatClampNeg from if_neg w0, ← ecl _ yl]
          refine XGo.ifn w0 ?_
          refine XGo.go 1 rfl ?_
          refine XGo.getf rfl (xfd_o o362 (xlt hN2 (by decide)) (by decide) rfl) ?_
          refine XGo.go 1 rfl ?_
          have qy := ia_nI o44 (xlt hN2 (by decide)) yl (by decide)
          rw [← yn] at qy
          refine XGo.iald rfl qy ?_
          exact XGo.iret _ rfl rfl .int rfl rfl
      · rw [if_pos (fun q => hy q.2)]
        refine ⟨h, to35 ?_, hf, fun _ _ => rfl⟩
        rw [if_neg hy]
        refine XGo.go 1 rfl ?_
        exact XGo.ifp rfl bad2
    · rw [if_pos (fun q => hc q.1)]
      refine ⟨h, to25 ?_, hf, fun _ _ => rfl⟩
      rw [if_neg hc]
      refine XGo.go 1 rfl ?_
      exact XGo.ifp rfl bad2
  · rw [if_pos hw]
    refine ⟨h, to15 ?_, hf, fun _ _ => rfl⟩
    rw [if_neg hw]
    refine XGo.go 1 rfl ?_
    exact XGo.ifp rfl bad1
end HA
/-- HAS ON BOTH SIDES -/
theorem G_has (gr c y w : Int32) {L : Nat} {xs : Nat → Int32} {h : XH} (hI : INVg L xs h) : ∃ (v : Int32) (h1 h2 : XH), XCall xM 11 68 [.ref 13, .int gr, .int c, .int y, .int w] h (some (.int v)) h1 ∧ AInv w_W h1 ∧ h1.2.2 1 = h.2.2 1 ∧ XCall xM 11 147 [.ref 536, .int gr, .int c, .int y, .int w] h1 (some (.int v)) h2 ∧ INVg L xs h2 := by
  obtain ⟨f, n, m, G, T, fw, hf, W, hH, hG, f2, h3, hg⟩ := G_ctx hI
  rcases gr_dec hG gr with hb | ⟨g, hgG, rfl⟩
  · have hB := mbk_of hI.1.1 hf
    refine ⟨m1, h, h, XCall.up (by decide) (cha_h 0 hI.1.1 (k_gNo 0 hH hG hb) hH ?_), hI.1.1, rfl, XCall.up (by decide) (mha_h 0 hB hG f2 (b := 0) (by rw [if_neg hb]) ?_), hI⟩
    · refine XGo.go 4 rfl ?_
      exact XGo.iret _ rfl rfl .int rfl rfl
    · refine XGo.go 1 rfl ?_
      refine XGo.ifp rfl ?_
      refine XGo.go 1 rfl ?_
      exact XGo.iret _ rfl rfl .int rfl rfl
  · obtain ⟨nc, Lt, Nt, hnc, hCG, hfn, hC⟩ := hg g hgG
    obtain ⟨h1, c1, hI1, o1⟩ := k_cha hI hf W hH hG h3 hgG hnc hCG hC c y w
    have hf1 := (o1 537 (by omega)).trans hf
    obtain ⟨h2, c2, hf2, o2⟩ := k_mha (mbk_of hI1.1.1 hf1) W hG f2 hgG hnc hfn hC c y w
    refine ⟨_, h1, h2, XCall.up (by decide) c1, hI1.1.1, XCall.ext _ _ _ _ _ _ c1 (by rw [hI.1.1.1]; decide) 1 (by decide), XCall.up (by decide) c2, ?_⟩
    exact G_fin h_930 (by decide +kernel) rfl (by decide +kernel) (by decide +kernel) (by decide +kernel) (gal536 (galT _ (galT c (galT y (galT w gal0))))) hI1 c2 hf1 hf2 o2
