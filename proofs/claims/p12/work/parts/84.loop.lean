theorem XGo.swo {d : Nat} {M : XMeth} {pc len a b w : Nat} {df lo hi : Int} {offs : Array Int} {x : Int32} {L : XL} {st : List Value} {h h1 : XH} {v : Option Value} (t : Nat) (hm : xfind (xmT M) pc = some (pc, .tableswitch df lo hi offs, len, a, b, w)) (hx : x.toInt < lo ∨ hi < x.toInt) (h0 : 0 ≤ (pc : Int) + df) (ht : ((pc : Int) + df).toNat = t) (k : XGo d M (t, L, st, h) v h1) : XGo d M (pc, L, .int x :: st, h) v h1 := by
  refine XGo.st _ hm (o := (t, L, st)) ?_ k
  simp only [xst]
  rw [if_pos hx, if_pos h0, ht]
set_option maxRecDepth 100000 in
theorem law_sw {n L : Nat} {xs : Nat → Int32} {h : XH} {Q : Option Value → XH → Prop} (x : Int32) (hn : n + 5 ≤ L) (hL : L ≤ 2560) (hI : INVg L xs h) (fin : ∀ h2, INVg L xs h2 → XGe 11 xm_L (1177, xLl n, [], h2) Q) : XGe 11 xm_L (32, xLl n, [.int x], h) Q := by
  by_cases hx : x.toInt < 0 ∨ 26 < x.toInt
  · exact XGe.map (fun v hend k => XGo.swo 1177 rfl hx (by decide) (by decide) k) (fin h hI)
  · obtain ⟨j, hj, rfl⟩ : ∃ j : Nat, j < 27 ∧ x = Int32.ofNat j := ⟨x.toInt.toNat, by omega, Int32.toInt_inj.mp (by rw [show (Int32.ofNat x.toInt.toNat).toInt = _ from nI_toInt (by omega)]; omega)⟩
    match j, hj with
    | 0, _ => exact XGe.map (fun v hend k => XGo.go 1 rfl k) (law_c0 hn hL hI fin)
    | 1, _ => exact XGe.map (fun v hend k => XGo.go 1 rfl k) (law_c1 hn hL hI fin)
    | 2, _ => exact XGe.map (fun v hend k => XGo.go 1 rfl k) (law_c2 hn hL hI fin)
    | 3, _ => exact XGe.map (fun v hend k => XGo.go 1 rfl k) (law_c3 hn hL hI fin)
    | 4, _ => exact XGe.map (fun v hend k => XGo.go 1 rfl k) (law_c4 hn hL hI fin)
    | 5, _ => exact XGe.map (fun v hend k => XGo.go 1 rfl k) (law_c5 hn hL hI fin)
    | 6, _ => exact XGe.map (fun v hend k => XGo.go 1 rfl k) (law_c6 hn hL hI fin)
    | 7, _ => exact XGe.map (fun v hend k => XGo.go 1 rfl k) (law_c7 hn hL hI fin)
    | 8, _ => exact XGe.map (fun v hend k => XGo.go 1 rfl k) (law_c8 hn hL hI fin)
    | 9, _ => exact XGe.map (fun v hend k => XGo.go 1 rfl k) (law_c9 hn hL hI fin)
    | 10, _ => exact XGe.map (fun v hend k => XGo.go 1 rfl k) (law_c10 hn hL hI fin)
    | 11, _ => exact XGe.map (fun v hend k => XGo.go 1 rfl k) (law_c11 hn hL hI fin)
    | 12, _ => exact XGe.map (fun v hend k => XGo.go 1 rfl k) (law_c12 hn hL hI fin)
    | 13, _ => exact XGe.map (fun v hend k => XGo.go 1 rfl k) (law_c13 hn hL hI fin)
    | 14, _ => exact XGe.map (fun v hend k => XGo.go 1 rfl k) (law_c14 hn hL hI fin)
    | 15, _ => exact XGe.map (fun v hend k => XGo.go 1 rfl k) (law_c15 hn hL hI fin)
    | 16, _ => exact XGe.map (fun v hend k => XGo.go 1 rfl k) (law_c16 hn hL hI fin)
    | 17, _ => exact XGe.map (fun v hend k => XGo.go 1 rfl k) (law_c17 hn hL hI fin)
    | 18, _ => exact XGe.map (fun v hend k => XGo.go 1 rfl k) (law_c18 hn hL hI fin)
    | 19, _ => exact XGe.map (fun v hend k => XGo.go 1 rfl k) (law_c19 hn hL hI fin)
    | 20, _ => exact XGe.map (fun v hend k => XGo.go 1 rfl k) (law_c20 hn hL hI fin)
    | 21, _ => exact XGe.map (fun v hend k => XGo.go 1 rfl k) (law_c21 hn hL hI fin)
    | 22, _ => exact XGe.map (fun v hend k => XGo.go 1 rfl k) (law_c22 hn hL hI fin)
    | 23, _ => exact XGe.map (fun v hend k => XGo.go 1 rfl k) (law_c23 hn hL hI fin)
    | 24, _ => exact XGe.map (fun v hend k => XGo.go 1 rfl k) (law_c24 hn hL hI fin)
    | 25, _ => exact XGe.map (fun v hend k => XGo.go 1 rfl k) (law_c25 hn hL hI fin)
    | 26, _ => exact XGe.map (fun v hend k => XGo.go 1 rfl k) (law_c26 hn hL hI fin)
    | j + 27, h => exact absurd h (by omega)
set_option maxRecDepth 100000 in
theorem law_loop {L : Nat} {xs : Nat → Int32} {Q : Option Value → XH → Prop} (hL : L ≤ 2560) (fin : ∀ h, INVg L xs h → Q (some (.int 1)) h) : ∀ (m n : Nat) (h : XH), L + 5 ≤ n + m → n ≤ L + 4 → INVg L xs h → XGe 11 xm_L (18, xLl n, [], h) Q
  | 0, n, h, h1, h2, _ => by omega
  | m + 1, n, h, h1, h2, hI => by
    have he := hI.1.2.2.2.2
    have hN := lt1 hI.1.1
    have e5 : (Int32.ofNat L - Int32.ofInt 5).toInt = (L : Int) - 5 := by
      have a1 : (Int32.ofNat L).toInt = (L : Int) := nI_toInt (by omega)
      have a2 : (Int32.ofInt 5).toInt = 5 := by decide
      rw [i32_sub (by omega) (by omega), a1, a2]
    have en : (nI n).toInt = (n : Int) := nI_toInt (by omega)
    have head : ∀ {v : Option Value} {hend : XH}, XGo 11 xm_L (if Int32.ofNat L - Int32.ofInt 5 < nI n then 1183 else 26, xLl n, [], h) v hend → XGo 11 xm_L (18, xLl n, [], h) v hend := fun k => by
      refine XGo.go 2 rfl ?_
      refine XGo.alen rfl (xlen_i he hN (by decide)) ?_
      exact XGo.go 3 rfl k
    by_cases hc : Int32.ofNat L - Int32.ofInt 5 < nI n
    · refine ⟨some (.int 1), h, fin h hI, head (XGo.ifp hc ?_)⟩
      refine XGo.go 1 rfl ?_
      exact XGo.iret _ rfl rfl .boolean rfl rfl
    · have hn : n + 5 ≤ L := by
        have := Int32.le_iff_toInt_le.mp (Int32.not_lt.mp hc)
        omega
      have k0 := law_sw (xs (nI n).toNatClampNeg &&& (Int8.ofInt 31).toInt32) hn hL hI (fun h2 i2 => XGe.map (fun v hend k => (by
        refine XGo.go 2 rfl ?_
        rw [show nI n + Int32.ofInt 5 = nI (n + 5) from nI_add n 5]
        exact k)) (law_loop hL fin m (n + 5) h2 (by omega) (by omega) i2))
      refine XGe.map (fun v hend k => head (XGo.ifn hc ?_)) k0
      refine XGo.go 2 rfl ?_
      refine XGo.iald rfl (xia_i he hN (fun q => q.elim (xnI_lt0 (by omega)) (fun z => by rw [xnI_nat (by omega)] at z; omega))) ?_
      exact XGo.go 2 rfl k
set_option maxRecDepth 100000 in
theorem law_mid {d : Nat} {v : Option Value} {hend : XH} (B : XH) (hb : B.1 = 536) (k : XGo (d + 1) xm_L (18, xLl 0, [], xblk B (xb_X7_init 536) 1264) v hend) : XGo (d + 1) xm_L (7, [some (.ref 1), none, none, none], [.ref 13], B) v hend := by
  refine XGo.go 2 rfl ?_
  show XGo _ _ (11, _, [.ref B.1], xnew B 25 (.inl (7, xdef 7))) _ _
  rw [xblk_new0]
  refine XGo.go 1 rfl ?_
  refine XGo.call _ rfl xm_X7_init rfl rfl [.ref B.1] [.ref B.1] rfl rfl (fun _ => ⟨B.1, xdef 7, rfl, ?_, by omega, ?_⟩) (Nat.le_of_ble_eq_true rfl) (k_X7_init d B (by omega)) ?_
  · exact xblk_at (A := [.inl (7, xdef 7)]) (i := 0) rfl
  · show B.1 < B.1 + 1
    omega
  rw [hb]
  exact XGo.go 3 rfl k
set_option maxRecDepth 100000 in
theorem law_all (xs : Nat → Int32) (fl : Bool) {L : Nat} (hL : L ≤ 2560) : ∃ (v : Option Value) (h1 : XH), (v = some (.int 1) ∧ h1.1 = 549 ∧ h1.2.1 = 14048) ∧ XGo 11 xm_L (0, [some (.ref 1), none, none, none], [], (13, 0, xg L xs fl)) v h1 := by
  refine XGe.map (Q := fun v h1 => v = some (.int 1) ∧ h1.1 = 549 ∧ h1.2.1 = 14048) (fun v hend k => ?_) (law_loop (xs := xs) hL (fun h hI => ⟨rfl, hI.1.1.1, hI.1.1.2.1⟩) (L + 5) 0 (xh0 (xg L xs fl)) (by omega) (by omega) (INVg_0 L xs fl))
  refine XGo.go 1 rfl ?_
  show XGo _ _ (3, _, [.ref 13], xnew (13, 0, xg L xs fl) 9 (.inl (6, xdef 6))) _ _
  rw [xblk_new0]
  refine XGo.go 1 rfl ?_
  refine XGo.call _ rfl xm_X6_init rfl rfl [.ref 13] [.ref 13] rfl rfl (fun _ => ⟨13, xdef 6, rfl, rfl, by decide, Nat.le_of_ble_eq_true rfl⟩) (Nat.le_of_ble_eq_true rfl) (k_X6_init 8 (13, 0, xg L xs fl) (Nat.le_of_ble_eq_true rfl)) ?_
  refine law_mid _ ?_ ?_
  · show 13 + (xlg 13 64 ++ xcr (13 + 75) 64).length = 536
    rw [List.length_append, xcr_len]
    rfl
  · have e2 : xblk (xblk (13, 0, xg L xs fl) (xlg 13 64 ++ xcr (13 + 75) 64) (1456 + 177 * 64)) (xb_X7_init 536) 1264 = xh0 (xg L xs fl) := xh0_eq (xg L xs fl)
    show XGo _ _ (_, _, _, xblk (xblk (13, 0, xg L xs fl) (xlg 13 64 ++ xcr (13 + 75) 64) (1456 + 177 * 64)) (xb_X7_init 536) 1264) _ _
    rw [e2]
    exact k
