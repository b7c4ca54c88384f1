/-! told on both sides; what every question of a grant begins with -/
theorem G_ctx {L : Nat} {xs : Nat → Int32} {h : XH} (hI : INVg L xs h) : ∃ (f : Nat → Int32) (n m G T : Nat) (fw : List Value), h.2.2 537 = .inr (.inl (0, 490, f)) ∧ RW f n m ∧ GH h fw G T ∧ G ≤ 6 ∧ f 2 = nI G ∧ rd h 14 3 = some (.int (nI m)) ∧ ∀ g, g < G → ∃ (nc : Nat) (Lt Nt : Nat → Int32), (1 ≤ nc ∧ nc ≤ 6) ∧ CG h (24 + 3 * g) (nI nc) Lt Nt ∧ f (130 + g) = nI nc ∧ CI f g Lt Nt nc := by
  obtain ⟨f, n, m, -, hf, W, -⟩ := G_base hI
  obtain ⟨G, T, fw, hH, ⟨hG, hT⟩, f2, f4, ht, hg⟩ := gh_of2 hI hf
  exact ⟨f, n, m, G, T, fw, hf, W, hH, hG, f2, rd3_of hI hf W, fun g hgG => cg_of hI.1.1 hI.2.2.2.1 (by omega) (hg g hgG)⟩
/-- the model's call behind the class's, the row as it was -/
theorem G_fin {c : ACt} (hc : AHp w_W w_P c) (ho : aints c.1.2.2.1 = true) (hm : c.2.1 = []) (hv : vsafe c.1.2.2.2.1 = true) (hs : ssafe c.1.2.2.2.1 = true) (hk : gsafeK c.1.2.2.2.1 = true) {as : List Value} (ha : gal w_W c.1.2.1 as) {L : Nat} {xs : Nat → Int32} {h1 h2 : XH} (hI1 : INVg L xs h1) {v : Option Value} {e : Nat} (c2 : XCall xM e c.1.1 as h1 v h2) {f : Nat → Int32} (hf1 : h1.2.2 537 = .inr (.inl (0, 490, f))) (hf2 : h2.2.2 537 = .inr (.inl (0, 490, f))) (o2 : ∀ z, z < 536 → h2.2.2 z = h1.2.2 z) : INVg L xs h2 := by
  obtain ⟨hw1, gW1, gK1, gS1, gB1⟩ := hI1
  obtain ⟨hw2, gK2, gS2, gB2, x2⟩ := G_mid hc ho hm hv hs hk ha hw1 gK1 gS1 gB1 c2
  refine ⟨hw2, gr_pl gW1 fun z hz => ?_, gK2, gS2, gB2⟩
  by_cases z5 : z = 537
  · rw [z5, hf1, hf2]
  · exact o2 z (by omega)
/-- how many numbers there are -/
def plN (o : Nat ⊕ Nat) : Int32 := match o with
  | .inl n => nI n
  | .inr _ => Int32.ofInt 0
section CN
variable {H : XH} {p nc : Nat} {Lt Nt : Nat → Int32} {f : Nat → Int32} {g : Nat}
abbrev pnL (p n r : Nat) : XL := [some (.ref p), some (.int (nI n)), some (.int (nI r))]
theorem nI4 {nc : Nat} (hnc : nc ≤ 6) : nI nc * Int32.ofInt 4 = nI (4 * nc) := by
  have t : ∀ c : Fin 7, nI c.val * Int32.ofInt 4 = nI (4 * c.val) := by decide +kernel
  exact t ⟨nc, by omega⟩
set_option maxRecDepth 100000 in
theorem pn_s (d : Nat) (hN : H.1 = 549) (hG : CG H p (nI nc) Lt Nt) (hp : 13 ≤ p ∧ p + 2 < 549) (hnc : nc ≤ 6) {n r : Nat} (hr : r < 4 * nc) {b : Bool} (e : ltN (Lt r) = b) {v : Option Value} {hend : XH} (k : XGo (d + 2) xm_X1_numbersIn (4, pnL p (if b = true then n + 1 else n) (r + 1), [], H) v hend) : XGo (d + 2) xm_X1_numbersIn (4, pnL p n r, [], H) v hend := by
  subst e
  refine XGo.go 2 rfl ?_
  refine XGo.getf rfl (xfd_o hG.1 (xlt hN (by omega)) (by omega) rfl) ?_
  refine XGo.go 2 rfl ?_
  refine XGo.top (nI4 hnc) ?_
  refine XGo.go 1 rfl ?_
  refine XGo.ifn (fun z => absurd ((xnI_ge (by omega) (by omega)).mp z) (by omega)) ?_
  refine XGo.go 2 rfl ?_
  refine XGo.call _ rfl xm_X1_isNumberAt rfl rfl [.ref p, .int (nI r)] [] rfl rfl (fun _ => ⟨p, _, rfl, hG.1, by omega, by omega⟩) (Nat.le_of_ble_eq_true rfl) (k_nAt d hN hG hp (by omega)) ?_
  refine XGo.go 1 rfl ?_
  unfold pnL at k
  rw [← show nI r + Int32.ofInt 1 = nI (r + 1) from nI_1 r] at k
  cases e : ltN (Lt r)
  · rw [e, if_neg (by decide)] at k
    refine XGo.ifp rfl ?_
    exact XGo.go 2 rfl k
  · rw [e, if_pos rfl, ← show nI n + Int32.ofInt 1 = nI (n + 1) from nI_1 n] at k
    refine XGo.ifn (by decide) ?_
    exact XGo.go 3 rfl k
theorem plS_m {q j n : Nat} (hn : n < 1000) : plS f g m1 (q + 1) j n = plS f g m1 q (j + 1) (if nmB f g j = true then n + 1 else n) := by
  cases b : nmB f g j
  · rw [plS_f b]
    rfl
  · rw [plS_n b (nI_m1 hn)]
    rfl
set_option maxRecDepth 100000 in
theorem pn_l (d : Nat) (hN : H.1 = 549) (hG : CG H p (nI nc) Lt Nt) (hp : 13 ≤ p ∧ p + 2 < 549) (hnc : nc ≤ 6) (hC : CI f g Lt Nt nc) : ∀ (q c : Nat), c + q = nc → ∀ n, n ≤ 3 * c → ∃ z, plS f g m1 (3 * q) (3 * c) n = .inl z ∧ XGo (d + 2) xm_X1_numbersIn (4, pnL p n (4 * c), [], H) (some (.int (nI z))) H
  | 0, c, hc, n, _ => by
    have hc : c = nc := by omega
    subst hc
    refine ⟨n, rfl, ?_⟩
    refine XGo.go 2 rfl ?_
    refine XGo.getf rfl (xfd_o hG.1 (xlt hN (by omega)) (by omega) rfl) ?_
    refine XGo.go 2 rfl ?_
    refine XGo.top (nI4 hnc) ?_
    refine XGo.go 1 rfl ?_
    refine XGo.ifp (Int32.le_refl _) ?_
    refine XGo.go 1 rfl ?_
    exact XGo.iret _ rfl rfl .int rfl rfl
  | q + 1, c, hc, n, hn => by
    obtain ⟨k0, k1, k2, k3⟩ := hC c (by omega)
    have le : ∀ (b : Bool) (a : Nat), (if b = true then a + 1 else a) ≤ a + 1 := fun b a => by cases b <;> simp
    rw [show 3 * (q + 1) = 3 * q + 1 + 1 + 1 by omega, plS_m (by omega)]
    have l1 := le (nmB f g (3 * c)) n
    generalize ha : (if nmB f g (3 * c) = true then n + 1 else n) = a at *
    rw [plS_m (by omega)]
    have l2 := le (nmB f g (3 * c + 1)) a
    generalize hb : (if nmB f g (3 * c + 1) = true then a + 1 else a) = b at *
    rw [plS_m (by omega)]
    have l3 := le (nmB f g (3 * c + 1 + 1)) b
    generalize hd : (if nmB f g (3 * c + 1 + 1) = true then b + 1 else b) = dd at *
    obtain ⟨z, hz, kz⟩ := pn_l d hN hG hp hnc hC q (c + 1) (by omega) dd (by omega)
    refine ⟨z, hz, ?_⟩
    refine pn_s d hN hG hp hnc (by omega) ((zcl_n k0).trans (nmB_0 f g c).symm) ?_
    rw [ha]
    refine pn_s d hN hG hp hnc (by omega) (hkl_n k1) ?_
    rw [if_neg (by decide)]
    refine pn_s d hN hG hp hnc (by omega) ((tkl_n k2).trans (nmB_1 f g c).symm) ?_
    rw [hb]
    refine pn_s d hN hG hp hnc (by omega) ((zcl_n k3).trans (nmB_2 f g c).symm) ?_
    rw [show 3 * c + 2 = 3 * c + 1 + 1 from rfl, hd]
    exact kz
end CN
/-- what told answers for a grant that is there -/
def toS (f : Nat → Int32) (g nc : Nat) (i : Int32) : Int32 :=
  if i = m1 then nI nc else if i = i2m then plN (plS f g m1 (3 * nc) 0 0) else match plS f g i (3 * nc) 0 0 with
  | .inl _ => m1
  | .inr j => f (nmW g j)
section TO
variable {h : XH} {fw : List Value} {G T : Nat} {f : Nat → Int32}
theorem cto_h (d : Nat) (hI : AInv w_W h) {gr i : Int32} {w : Value} (c58 : XCall xM (d + 1) 58 [.ref 14, .int gr] h (some w) h) (hH : GH h fw G T) {v : Option Value} {hend : XH} (k : XGo (d + 1) xm_X6_told (8, [some (.ref 13), some (.int gr), some (.int i), none, none], [w], h) v hend) : XCall xM (d + 2) 67 [.ref 13, .int gr, .int i] h v hend := by
  have hN := hH.N
  refine XCall.of (M := xm_X6_told) rfl (Nat.le_of_ble_eq_true rfl) ?_
  refine XGo.go 1 rfl ?_
  refine XGo.getr rfl hI (by decide) (by decide) w_rg_13 k13s (by decide) (r13_0 hI) ?_
  refine XGo.go 1 rfl ?_
  exact XGo.call _ rfl xm_X5_grantAt rfl rfl [.ref 14, .int gr] [] rfl rfl (fun _ => ⟨14, _, rfl, hH.o14, by decide, by omega⟩) (Nat.le_of_ble_eq_true rfl) c58 k
set_option maxRecDepth 100000 in
theorem k_cto (hI : AInv w_W h) (hH : GH h fw G T) (hG : G ≤ 6) {g nc : Nat} (hg : g < G) (hnc : 1 ≤ nc ∧ nc ≤ 6) {Lt Nt : Nat → Int32} (hCG : CG h (24 + 3 * g) (nI nc) Lt Nt) (hC : CI f g Lt Nt nc) (i : Int32) : XCall xM 5 67 [.ref 13, .int (nI g), .int i] h (some (.int (toS f g nc i))) h := by
  have hN := hH.N
  refine cto_h 3 hI (k_gAt 3 hH hg hG) hH ?_
  refine XGo.go 3 rfl ?_
  refine XGo.go 1 rfl ?_
  have z1 : m1.toInt = -1 := by decide
  have z2 : i2m.toInt = -2 := by decide
  by_cases i1 : i = m1
  · rw [show toS f g nc i = nI nc from if_pos i1]
    have e1 : i.toInt = -1 := by rw [i1]; decide
    refine XGo.lsw 28 44 rfl (by rw [e1]; decide) (by decide) (by decide) ?_
    refine XGo.go 1 rfl ?_
    refine XGo.getf rfl (xfd_o hCG.1 (xlt hN (by omega)) (by omega) rfl) ?_
    exact XGo.iret _ rfl rfl .int rfl rfl
  · by_cases i2 : i = i2m
    · rw [show toS f g nc i = plN (plS f g m1 (3 * nc) 0 0) from (if_neg i1).trans (if_pos i2)]
      have e2 : i.toInt = -2 := by rw [i2]; decide
      obtain ⟨z, hz, kz⟩ := pn_l 1 hN hCG (by omega) hnc.2 hC nc 0 (by omega) 0 (by omega)
      rw [show plS f g m1 (3 * nc) 0 0 = .inl z from hz]
      refine XGo.lsw 33 49 rfl (by rw [e2]; decide) (by decide) (by decide) ?_
      refine XGo.go 1 rfl ?_
      refine XGo.call _ rfl xm_X1_numbersIn rfl rfl [.ref (24 + 3 * g)] [] rfl rfl (fun _ => ⟨24 + 3 * g, _, rfl, hCG.1, by omega, by omega⟩) (Nat.le_of_ble_eq_true rfl) (XCall.of (d := 3) (M := xm_X1_numbersIn) rfl (Nat.le_of_ble_eq_true rfl) (XGo.go 4 rfl kz)) ?_
      exact XGo.iret _ rfl rfl .int rfl rfl
    · have n1 : ¬ i.toInt = -1 := fun e => i1 (Int32.toInt_inj.mp (by rw [e, z1]))
      have n2 : ¬ i.toInt = -2 := fun e => i2 (Int32.toInt_inj.mp (by rw [e, z2]))
      rw [show toS f g nc i = match plS f g i (3 * nc) 0 0 with
        | .inl _ => m1
        | .inr j => f (nmW g j) from (if_neg i1).trans (if_neg i2)]
      refine XGo.lsw 38 54 rfl (by
        show Op.lookupswitch.offset [((-2 : Int), 33), ((-1 : Int), 28)] 38 i.toInt = 38
        have m1 : ¬ (-1 : Int) = i.toInt := fun e => n1 e.symm
        have m2 : ¬ (-2 : Int) = i.toInt := fun e => n2 e.symm
        simp [Op.lookupswitch.offset, m1, m2]) (by decide) (by decide) ?_
      refine XGo.go 2 rfl ?_
      refine XGo.call _ rfl xm_X1_placeOfNumber rfl rfl [.ref (24 + 3 * g), .int i] [] rfl rfl (fun _ => ⟨24 + 3 * g, _, rfl, hCG.1, by omega, by omega⟩) (Nat.le_of_ble_eq_true rfl) (k_pl 1 hN hCG (by omega) hnc.2 hC i) ?_
      match hp : plS f g i (3 * nc) 0 0 with
      | .inl z =>
        refine XGo.go 3 rfl ?_
        refine XGo.ifn (show ¬ (0 : Int32) ≤ Int32.ofInt (-1) by decide) ?_
        refine XGo.go 2 rfl ?_
        exact XGo.iret _ rfl rfl .int rfl rfl
      | .inr j =>
        obtain ⟨-, hj, hb⟩ := plS_lt _ _ _ hp
        have hj : j < 3 * nc := by omega
        have hr := nmQ_in hj hnc.2
        refine XGo.go 3 rfl ?_
        refine XGo.ifp (show (0 : Int32) ≤ nI (nmQ j) from Int32.not_lt.mp (xnI_lt0 (by omega))) ?_
        refine XGo.go 1 rfl ?_
        refine XGo.getf rfl (xfd_o hCG.1 (xlt hN (by omega)) (by omega) rfl) ?_
        refine XGo.go 1 rfl ?_
        refine XGo.call _ rfl xm_X6_at rfl rfl [.ref (24 + 3 * g + 2), .int (nI (nmQ j))] [] rfl rfl (fun z => absurd rfl z) (Nat.le_of_ble_eq_true rfl) (at_row (d := 3) hCG.2.2 (xlt hN (by omega)) (by decide) hr) ?_
        rw [(num_at hC hj hb).1]
        exact XGo.iret _ rfl rfl .int rfl rfl
set_option maxRecDepth 100000 in
theorem k_mto (hB : MBk h f) (hG : G ≤ 6) (f2 : f 2 = nI G) {g nc : Nat} (hg : g < G) (hnc : 1 ≤ nc ∧ nc ≤ 6) (hfn : f (130 + g) = nI nc) (i : Int32) : XCall xM 4 132 [.ref 536, .int (nI g), .int i] h (some (.int (toS f g nc i))) h := by
  obtain ⟨hN, hS, ⟨e, o36⟩, hf, -⟩ := id hB
  have tg := nI_toInt (n := g) (by omega)
  have q := k_isGr 1 hB hG f2 (nI g)
  rw [if_pos ⟨by omega, by omega⟩] at q
  have z1 : m1.toInt = -1 := by decide
  have z2 : i2m.toInt = -2 := by decide
  have pl := fun i => k_plm 1 hN o36 hf (show g < 6 by omega) hnc.2 hfn i
  refine XCall.of (M := xm_X7_told) rfl (Nat.le_of_ble_eq_true rfl) ?_
  refine XGo.go 2 rfl ?_
  refine XGo.call _ rfl xm_X7_isGrant rfl rfl [.ref 536, .int (nI g)] [] rfl rfl (fun _ => ⟨536, _, rfl, o36, by decide, by omega⟩) (Nat.le_of_ble_eq_true rfl) q ?_
  refine XGo.go 1 rfl ?_
  refine XGo.ifn (by decide) ?_
  refine XGo.go 3 rfl ?_
  by_cases b : i2m ≤ i
  · have b' := Int32.le_iff_toInt_le.mp b
    refine XGo.ifp b ?_
    refine XGo.go 2 rfl ?_
    by_cases b0 : (0 : Int32) ≤ i
    · have b0' := Int32.le_iff_toInt_le.mp b0
      rw [z0_int] at b0'
      have i1 : ¬ i = m1 := fun e => by rw [e, z1] at b0'; omega
      have i2 : ¬ i = i2m := fun e => by rw [e, z2] at b0'; omega
      rw [show toS f g nc i = match plS f g i (3 * nc) 0 0 with
        | .inl _ => m1
        | .inr j => f (nmW g j) from (if_neg i1).trans (if_neg i2)]
      refine XGo.ifp b0 ?_
      refine XGo.go 3 rfl ?_
      refine XGo.call _ rfl xm_X7_placeOf rfl rfl [.ref 536, .int (nI g), .int i] [] rfl rfl (fun _ => ⟨536, _, rfl, o36, by decide, by omega⟩) (Nat.le_of_ble_eq_true rfl) (pl i) ?_
      refine XGo.go 4 rfl ?_
      match hp : plS f g i (3 * nc) 0 0 with
      | .inl z =>
        rw [show plM g i (.inl z) = m1 from if_neg i1]
        refine XGo.ifp rfl ?_
        refine XGo.go 2 rfl ?_
        exact XGo.iret _ rfl rfl .int rfl rfl
      | .inr j =>
        obtain ⟨-, hj, hb⟩ := plS_lt _ _ _ hp
        have hj : j < 3 * nc := by omega
        obtain ⟨w1, w2⟩ := nmW_in hj hnc.2 (show g < 6 by omega)
        refine XGo.ifn (show ¬ nI (nmW g j) = Int32.ofInt (-1) from nI_m1 (by omega)) ?_
        refine XGo.go 1 rfl ?_
        refine XGo.getf rfl (xfd_o o36 (xlt hN (by decide)) (by decide) rfl) ?_
        refine XGo.go 1 rfl ?_
        refine XGo.iald rfl (ia_nI hf (xlt hN (by decide)) (show nmW g j < 490 by omega) (by decide)) ?_
        exact XGo.iret _ rfl rfl .int rfl rfl
    · have b0' : i.toInt < 0 := by
        have := Int32.lt_iff_toInt_lt.mp (Int32.not_le.mp b0)
        rw [z0_int] at this
        exact this
      rw [z2] at b'
      refine XGo.ifn b0 ?_
      refine XGo.go 3 rfl ?_
      by_cases i1 : i = m1
      · rw [show toS f g nc i = nI nc from if_pos i1]
        refine XGo.ifp i1 ?_
        refine XGo.go 1 rfl ?_
        refine XGo.getf rfl (xfd_o o36 (xlt hN (by decide)) (by decide) rfl) ?_
        refine XGo.go 3 rfl ?_
        refine XGo.top (c130 ⟨g, by omega⟩) ?_
        refine XGo.iald rfl (ia_nI hf (xlt hN (by decide)) (show 130 + g < 490 by omega) (by decide)) ?_
        rw [hfn]
        refine XGo.go 1 rfl ?_
        exact XGo.iret _ rfl rfl .int rfl rfl
      · have n1 : ¬ i.toInt = -1 := fun e => i1 (Int32.toInt_inj.mp (by rw [e, z1]))
        have i2 : i = i2m := Int32.toInt_inj.mp (by rw [z2]; omega)
        rw [show toS f g nc i = plN (plS f g m1 (3 * nc) 0 0) from (if_neg i1).trans (if_pos i2)]
        have em : plM g m1 (plS f g m1 (3 * nc) 0 0) = plN (plS f g m1 (3 * nc) 0 0) := by
          obtain ⟨z, hz⟩ := plS_neg (f := f) (g := g) (i := m1) (by decide) (3 * nc) 0 0 (by omega)
          rw [hz]
          exact (if_pos rfl : (if m1 = Int32.ofInt (-1) then nI z else Int32.ofInt (-1)) = nI z)
        refine XGo.ifn i1 ?_
        refine XGo.go 3 rfl ?_
        have p2 := pl m1
        rw [em] at p2
        refine XGo.call _ rfl xm_X7_placeOf rfl rfl [.ref 536, .int (nI g), .int m1] [] rfl rfl (fun _ => ⟨536, _, rfl, o36, by decide, by omega⟩) (Nat.le_of_ble_eq_true rfl) p2 ?_
        exact XGo.iret _ rfl rfl .int rfl rfl
  · have b' := Int32.lt_iff_toInt_lt.mp (Int32.not_le.mp b)
    rw [z2] at b'
    have i1 : ¬ i = m1 := fun e => by rw [e, z1] at b'; omega
    have i2 : ¬ i = i2m := fun e => by rw [e, z2] at b'; omega
    obtain ⟨z, hz⟩ := plS_neg (f := f) (g := g) (i := i) (lt0_iff.mpr (by omega)) (3 * nc) 0 0 (by omega)
    rw [show toS f g nc i = match plS f g i (3 * nc) 0 0 with
        | .inl _ => m1
        | .inr j => f (nmW g j) from (if_neg i1).trans (if_neg i2), hz]
    refine XGo.ifn b ?_
    refine XGo.go 1 rfl ?_
    exact XGo.iret _ rfl rfl .int rfl rfl
end TO
/-- TOLD ON BOTH SIDES -/
theorem G_told (gr i : Int32) {L : Nat} {xs : Nat → Int32} {h : XH} (hI : INVg L xs h) : ∃ (v : Int32) (h1 h2 : XH), XCall xM 11 67 [.ref 13, .int gr, .int i] h (some (.int v)) h1 ∧ AInv w_W h1 ∧ h1.2.2 1 = h.2.2 1 ∧ XCall xM 11 132 [.ref 536, .int gr, .int i] h1 (some (.int v)) h2 ∧ INVg L xs h2 := by
  obtain ⟨f, n, m, G, T, fw, hf, W, hH, hG, f2, h3, hg⟩ := G_ctx hI
  have hB := mbk_of hI.1.1 hf
  rcases gr_dec hG gr with hb | ⟨g, hgG, rfl⟩
  · refine ⟨m1, h, h, XCall.up (by decide) (cto_h 0 hI.1.1 (k_gNo 0 hH hG hb) hH ?_), hI.1.1, rfl, XCall.up (by decide) (XCall.of (d := 2) (M := xm_X7_told) rfl (Nat.le_of_ble_eq_true rfl) ?_), hI⟩
    · refine XGo.go 4 rfl ?_
      exact XGo.iret _ rfl rfl .int rfl rfl
    · obtain ⟨hN, hS, ⟨e, o36⟩, hf, -⟩ := id hB
      have q := k_isGr 0 hB hG f2 gr
      rw [if_neg hb] at q
      refine XGo.go 2 rfl ?_
      refine XGo.call _ rfl xm_X7_isGrant rfl rfl [.ref 536, .int gr] [] rfl rfl (fun _ => ⟨536, _, rfl, o36, by decide, by omega⟩) (Nat.le_of_ble_eq_true rfl) q ?_
      refine XGo.go 1 rfl ?_
      refine XGo.ifp rfl ?_
      refine XGo.go 1 rfl ?_
      exact XGo.iret _ rfl rfl .int rfl rfl
  · obtain ⟨nc, Lt, Nt, hnc, hCG, hfn, hC⟩ := hg g hgG
    exact ⟨toS f g nc i, h, h, XCall.up (by decide) (k_cto hI.1.1 hH hG hgG hnc hCG hC i), hI.1.1, rfl, XCall.up (by decide) (k_mto hB hG f2 hgG hnc hfn i), hI⟩
