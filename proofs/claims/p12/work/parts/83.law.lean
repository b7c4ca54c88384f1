/-! the law (written by wip/p14/find/law14.py) -/
abbrev xLl (n : Nat) : XL := [some (.ref 1), some (.ref 13), some (.ref 536), some (.int (nI n))]
abbrev sa (xs : Nat → Int32) (n : Nat) (k : Int) : Int32 := xs (nI n + Int32.ofInt k).toNatClampNeg
theorem sc_in {n L k : Nat} {z : Int32} (hn : n + 5 ≤ L) (hL : L ≤ 2560) (hz : z = nI k) (hk : k < 5) : ¬ (nI n + z < 0 ∨ L ≤ (nI n + z).toNatClampNeg) := by
  subst hz
  rw [nI_add n k]
  exact fun q => q.elim (xnI_lt0 (by omega)) (fun w => by rw [xnI_nat (by omega)] at w; omega)
theorem XGo.scr {d pc n L k len a b w : Nat} {kk : Int} {xs : Nat → Int32} {st : List Value} {h h1 : XH} {v : Option Value} (hk : Int32.ofInt kk = nI k) (hk5 : k < 5) (hn : n + 5 ≤ L) (hL : L ≤ 2560) (he : h.2.2 1 = .inr (.inl (0, L, xs))) (hN : 1 < h.1) (g1 : ysteps (xmT xm_L) 4 (pc, xLl n, st, h) = some (pc + 4, xLl n, .int (nI n + Int32.ofInt kk) :: .ref 1 :: st, h)) (hm : xfind (xmT xm_L) (pc + 4) = some (pc + 4, .iaload, len, a, b, w)) (g : XGo d xm_L (pc + 4 + 1, xLl n, .int (sa xs n kk) :: st, h) v h1) : XGo d xm_L (pc, xLl n, st, h) v h1 :=
  XGo.go 4 g1 (XGo.iald hm (xia_i he hN (sc_in hn hL hk hk5)) g)
theorem rc13 {h : XH} (hI : AInv w_W h) : ∃ fs, h.2.2 13 = .inl (6, fs) ∧ 13 < h.1 := by
  obtain ⟨s1, -⟩ := hI.2.2 13 (by decide)
  rw [w_S_13] at s1
  obtain ⟨⟨o, fs⟩, ho, o1, -⟩ := shp_o (s := w_s13) rfl s1
  have o1 : o = 6 := o1
  subst o1
  exact ⟨fs, ho, by rw [hI.1]; decide⟩
theorem rc536 {h : XH} (hI : AInv w_W h) : ∃ fs, h.2.2 536 = .inl (7, fs) ∧ 536 < h.1 := by
  obtain ⟨fs, h1, -⟩ := w_mod hI
  exact ⟨fs, h1, by rw [hI.1]; decide⟩
theorem lt1 {h : XH} (hI : AInv w_W h) : 1 < h.1 := by rw [hI.1]; decide
set_option maxRecDepth 100000 in
theorem law_c0 {n L : Nat} {xs : Nat → Int32} {h : XH} {Q : Option Value → XH → Prop} (hn : n + 5 ≤ L) (hL : L ≤ 2560) (hI : INVg L xs h) (fin : ∀ h2, INVg L xs h2 → XGe 11 xm_L (1177, xLl n, [], h2) Q) : XGe 11 xm_L (156, xLl n, [], h) Q := by
  obtain ⟨v, h1, h2, c1, i1, q1, c2, i2⟩ := G_person (sa xs n 1) (sa xs n 2) hI
  obtain ⟨fs, e13, l13⟩ := rc13 hI.1.1
  obtain ⟨gs, e536, l536⟩ := rc536 i1
  refine XGe.map (fun vv hend k => ?_) (fin h2 i2)
  refine XGo.go 1 rfl ?_
  refine XGo.scr (pc := 157) (kk := 1) (k := 1) (by decide) (by decide) hn hL hI.1.2.2.2.2 (lt1 hI.1.1) rfl rfl ?_
  refine XGo.scr (pc := 162) (kk := 2) (k := 2) (by decide) (by decide) hn hL hI.1.2.2.2.2 (lt1 hI.1.1) rfl rfl ?_
  refine XGo.call _ rfl xm_X6_person rfl rfl [.ref 13, .int _, .int _] [] rfl rfl (fun _ => ⟨13, _, rfl, e13, by decide, l13⟩) (Nat.le_of_ble_eq_true rfl) c1 ?_
  refine XGo.go 2 rfl ?_
  refine XGo.scr (pc := 172) (kk := 1) (k := 1) (by decide) (by decide) hn hL (q1.trans hI.1.2.2.2.2) (lt1 i1) rfl rfl ?_
  refine XGo.scr (pc := 177) (kk := 2) (k := 2) (by decide) (by decide) hn hL (q1.trans hI.1.2.2.2.2) (lt1 i1) rfl rfl ?_
  refine XGo.call _ rfl xm_X7_person rfl rfl [.ref 536, .int _, .int _] [] rfl rfl (fun _ => ⟨536, _, rfl, e536, by decide, l536⟩) (Nat.le_of_ble_eq_true rfl) c2 ?_
  exact XGo.go 2 rfl k
set_option maxRecDepth 100000 in
theorem law_c1 {n L : Nat} {xs : Nat → Int32} {h : XH} {Q : Option Value → XH → Prop} (hn : n + 5 ≤ L) (hL : L ≤ 2560) (hI : INVg L xs h) (fin : ∀ h2, INVg L xs h2 → XGe 11 xm_L (1177, xLl n, [], h2) Q) : XGe 11 xm_L (189, xLl n, [], h) Q := by
  obtain ⟨v, h1, h2, c1, i1, q1, c2, i2⟩ := G_maybe (sa xs n 1) (sa xs n 2) (sa xs n 3) hI
  obtain ⟨fs, e13, l13⟩ := rc13 hI.1.1
  obtain ⟨gs, e536, l536⟩ := rc536 i1
  refine XGe.map (fun vv hend k => ?_) (fin h2 i2)
  refine XGo.go 1 rfl ?_
  refine XGo.scr (pc := 190) (kk := 1) (k := 1) (by decide) (by decide) hn hL hI.1.2.2.2.2 (lt1 hI.1.1) rfl rfl ?_
  refine XGo.scr (pc := 195) (kk := 2) (k := 2) (by decide) (by decide) hn hL hI.1.2.2.2.2 (lt1 hI.1.1) rfl rfl ?_
  refine XGo.scr (pc := 200) (kk := 3) (k := 3) (by decide) (by decide) hn hL hI.1.2.2.2.2 (lt1 hI.1.1) rfl rfl ?_
  refine XGo.call _ rfl xm_X6_maybe rfl rfl [.ref 13, .int _, .int _, .int _] [] rfl rfl (fun _ => ⟨13, _, rfl, e13, by decide, l13⟩) (Nat.le_of_ble_eq_true rfl) c1 ?_
  refine XGo.go 2 rfl ?_
  refine XGo.scr (pc := 210) (kk := 1) (k := 1) (by decide) (by decide) hn hL (q1.trans hI.1.2.2.2.2) (lt1 i1) rfl rfl ?_
  refine XGo.scr (pc := 215) (kk := 2) (k := 2) (by decide) (by decide) hn hL (q1.trans hI.1.2.2.2.2) (lt1 i1) rfl rfl ?_
  refine XGo.scr (pc := 220) (kk := 3) (k := 3) (by decide) (by decide) hn hL (q1.trans hI.1.2.2.2.2) (lt1 i1) rfl rfl ?_
  refine XGo.call _ rfl xm_X7_maybe rfl rfl [.ref 536, .int _, .int _, .int _] [] rfl rfl (fun _ => ⟨536, _, rfl, e536, by decide, l536⟩) (Nat.le_of_ble_eq_true rfl) c2 ?_
  exact XGo.go 2 rfl k
set_option maxRecDepth 100000 in
theorem law_c2 {n L : Nat} {xs : Nat → Int32} {h : XH} {Q : Option Value → XH → Prop} (hn : n + 5 ≤ L) (hL : L ≤ 2560) (hI : INVg L xs h) (fin : ∀ h2, INVg L xs h2 → XGe 11 xm_L (1177, xLl n, [], h2) Q) : XGe 11 xm_L (232, xLl n, [], h) Q := by
  obtain ⟨v, h1, c1, i1⟩ := Gc_life (sa xs n 1) (sa xs n 2) (sa xs n 3) (sa xs n 4) hI
  obtain ⟨w, h2, c2, i2⟩ := Gm_life (sa xs n 1) (sa xs n 2) (sa xs n 3) (sa xs n 4) i1
  obtain ⟨fs, e13, l13⟩ := rc13 hI.1.1
  obtain ⟨gs, e536, l536⟩ := rc536 i1.1.1
  refine XGe.map (fun vv hend k => ?_) (fin h2 i2)
  refine XGo.go 1 rfl ?_
  refine XGo.scr (pc := 233) (kk := 1) (k := 1) (by decide) (by decide) hn hL hI.1.2.2.2.2 (lt1 hI.1.1) rfl rfl ?_
  refine XGo.scr (pc := 238) (kk := 2) (k := 2) (by decide) (by decide) hn hL hI.1.2.2.2.2 (lt1 hI.1.1) rfl rfl ?_
  refine XGo.scr (pc := 243) (kk := 3) (k := 3) (by decide) (by decide) hn hL hI.1.2.2.2.2 (lt1 hI.1.1) rfl rfl ?_
  refine XGo.scr (pc := 248) (kk := 4) (k := 4) (by decide) (by decide) hn hL hI.1.2.2.2.2 (lt1 hI.1.1) rfl rfl ?_
  refine XGo.call _ rfl xm_X6_life rfl rfl [.ref 13, .int _, .int _, .int _, .int _] [] rfl rfl (fun _ => ⟨13, _, rfl, e13, by decide, l13⟩) (Nat.le_of_ble_eq_true rfl) c1 ?_
  refine XGo.go 2 rfl ?_
  refine XGo.scr (pc := 258) (kk := 1) (k := 1) (by decide) (by decide) hn hL i1.1.2.2.2.2 (lt1 i1.1.1) rfl rfl ?_
  refine XGo.scr (pc := 263) (kk := 2) (k := 2) (by decide) (by decide) hn hL i1.1.2.2.2.2 (lt1 i1.1.1) rfl rfl ?_
  refine XGo.scr (pc := 268) (kk := 3) (k := 3) (by decide) (by decide) hn hL i1.1.2.2.2.2 (lt1 i1.1.1) rfl rfl ?_
  refine XGo.scr (pc := 273) (kk := 4) (k := 4) (by decide) (by decide) hn hL i1.1.2.2.2.2 (lt1 i1.1.1) rfl rfl ?_
  refine XGo.call _ rfl xm_X7_life rfl rfl [.ref 536, .int _, .int _, .int _, .int _] [] rfl rfl (fun _ => ⟨536, _, rfl, e536, by decide, l536⟩) (Nat.le_of_ble_eq_true rfl) c2 ?_
  exact XGo.go 2 rfl k
set_option maxRecDepth 100000 in
theorem law_c3 {n L : Nat} {xs : Nat → Int32} {h : XH} {Q : Option Value → XH → Prop} (hn : n + 5 ≤ L) (hL : L ≤ 2560) (hI : INVg L xs h) (fin : ∀ h2, INVg L xs h2 → XGe 11 xm_L (1177, xLl n, [], h2) Q) : XGe 11 xm_L (285, xLl n, [], h) Q := by
  obtain ⟨v, h1, h2, c1, i1, q1, c2, i2⟩ := G_feed (((sa xs n 1).toInt64 <<< ((Int8.ofInt 32).toInt32.toInt64 &&& 63)) ||| ((sa xs n 2).toInt64 &&& Int64.ofNat 4294967295)) (sa xs n 3) hI
  obtain ⟨fs, e13, l13⟩ := rc13 hI.1.1
  obtain ⟨gs, e536, l536⟩ := rc536 i1
  refine XGe.map (fun vv hend k => ?_) (fin h2 i2)
  refine XGo.go 1 rfl ?_
  refine XGo.scr (pc := 286) (kk := 1) (k := 1) (by decide) (by decide) hn hL hI.1.2.2.2.2 (lt1 hI.1.1) rfl rfl ?_
  refine XGo.go 3 rfl ?_
  refine XGo.scr (pc := 295) (kk := 2) (k := 2) (by decide) (by decide) hn hL hI.1.2.2.2.2 (lt1 hI.1.1) rfl rfl ?_
  refine XGo.go 4 rfl ?_
  refine XGo.scr (pc := 306) (kk := 3) (k := 3) (by decide) (by decide) hn hL hI.1.2.2.2.2 (lt1 hI.1.1) rfl rfl ?_
  refine XGo.call _ rfl xm_X6_feed rfl rfl [.ref 13, .long _, .int _] [] rfl rfl (fun _ => ⟨13, _, rfl, e13, by decide, l13⟩) (Nat.le_of_ble_eq_true rfl) c1 ?_
  refine XGo.go 2 rfl ?_
  refine XGo.scr (pc := 316) (kk := 1) (k := 1) (by decide) (by decide) hn hL (q1.trans hI.1.2.2.2.2) (lt1 i1) rfl rfl ?_
  refine XGo.go 3 rfl ?_
  refine XGo.scr (pc := 325) (kk := 2) (k := 2) (by decide) (by decide) hn hL (q1.trans hI.1.2.2.2.2) (lt1 i1) rfl rfl ?_
  refine XGo.go 4 rfl ?_
  refine XGo.scr (pc := 336) (kk := 3) (k := 3) (by decide) (by decide) hn hL (q1.trans hI.1.2.2.2.2) (lt1 i1) rfl rfl ?_
  refine XGo.call _ rfl xm_X7_feed rfl rfl [.ref 536, .long _, .int _] [] rfl rfl (fun _ => ⟨536, _, rfl, e536, by decide, l536⟩) (Nat.le_of_ble_eq_true rfl) c2 ?_
  exact XGo.go 2 rfl k
set_option maxRecDepth 100000 in
theorem law_c4 {n L : Nat} {xs : Nat → Int32} {h : XH} {Q : Option Value → XH → Prop} (hn : n + 5 ≤ L) (hL : L ≤ 2560) (hI : INVg L xs h) (fin : ∀ h2, INVg L xs h2 → XGe 11 xm_L (1177, xLl n, [], h2) Q) : XGe 11 xm_L (348, xLl n, [], h) Q := by
  obtain ⟨v, h1, h2, c1, i1, q1, c2, i2⟩ := G_grant  hI
  obtain ⟨fs, e13, l13⟩ := rc13 hI.1.1
  obtain ⟨gs, e536, l536⟩ := rc536 i1
  refine XGe.map (fun vv hend k => ?_) (fin h2 i2)
  refine XGo.go 1 rfl ?_
  refine XGo.call _ rfl xm_X6_grant rfl rfl [.ref 13] [] rfl rfl (fun _ => ⟨13, _, rfl, e13, by decide, l13⟩) (Nat.le_of_ble_eq_true rfl) c1 ?_
  refine XGo.go 2 rfl ?_
  refine XGo.call _ rfl xm_X7_grant rfl rfl [.ref 536] [] rfl rfl (fun _ => ⟨536, _, rfl, e536, by decide, l536⟩) (Nat.le_of_ble_eq_true rfl) c2 ?_
  exact XGo.go 2 rfl k
set_option maxRecDepth 100000 in
theorem law_c5 {n L : Nat} {xs : Nat → Int32} {h : XH} {Q : Option Value → XH → Prop} (hn : n + 5 ≤ L) (hL : L ≤ 2560) (hI : INVg L xs h) (fin : ∀ h2, INVg L xs h2 → XGe 11 xm_L (1177, xLl n, [], h2) Q) : XGe 11 xm_L (361, xLl n, [], h) Q := by
  obtain ⟨v, h1, c1, i1⟩ := Gc_told (sa xs n 1) (sa xs n 2) hI
  obtain ⟨w, h2, c2, i2⟩ := Gm_told (sa xs n 1) (sa xs n 2) i1
  obtain ⟨fs, e13, l13⟩ := rc13 hI.1.1
  obtain ⟨gs, e536, l536⟩ := rc536 i1.1.1
  refine XGe.map (fun vv hend k => ?_) (fin h2 i2)
  refine XGo.go 1 rfl ?_
  refine XGo.scr (pc := 362) (kk := 1) (k := 1) (by decide) (by decide) hn hL hI.1.2.2.2.2 (lt1 hI.1.1) rfl rfl ?_
  refine XGo.scr (pc := 367) (kk := 2) (k := 2) (by decide) (by decide) hn hL hI.1.2.2.2.2 (lt1 hI.1.1) rfl rfl ?_
  refine XGo.call _ rfl xm_X6_told rfl rfl [.ref 13, .int _, .int _] [] rfl rfl (fun _ => ⟨13, _, rfl, e13, by decide, l13⟩) (Nat.le_of_ble_eq_true rfl) c1 ?_
  refine XGo.go 2 rfl ?_
  refine XGo.scr (pc := 377) (kk := 1) (k := 1) (by decide) (by decide) hn hL i1.1.2.2.2.2 (lt1 i1.1.1) rfl rfl ?_
  refine XGo.scr (pc := 382) (kk := 2) (k := 2) (by decide) (by decide) hn hL i1.1.2.2.2.2 (lt1 i1.1.1) rfl rfl ?_
  refine XGo.call _ rfl xm_X7_told rfl rfl [.ref 536, .int _, .int _] [] rfl rfl (fun _ => ⟨536, _, rfl, e536, by decide, l536⟩) (Nat.le_of_ble_eq_true rfl) c2 ?_
  exact XGo.go 2 rfl k
set_option maxRecDepth 100000 in
theorem law_c6 {n L : Nat} {xs : Nat → Int32} {h : XH} {Q : Option Value → XH → Prop} (hn : n + 5 ≤ L) (hL : L ≤ 2560) (hI : INVg L xs h) (fin : ∀ h2, INVg L xs h2 → XGe 11 xm_L (1177, xLl n, [], h2) Q) : XGe 11 xm_L (394, xLl n, [], h) Q := by
  obtain ⟨v, h1, c1, i1⟩ := Gc_has (sa xs n 1) (sa xs n 2) (sa xs n 3) (sa xs n 4) hI
  obtain ⟨w, h2, c2, i2⟩ := Gm_has (sa xs n 1) (sa xs n 2) (sa xs n 3) (sa xs n 4) i1
  obtain ⟨fs, e13, l13⟩ := rc13 hI.1.1
  obtain ⟨gs, e536, l536⟩ := rc536 i1.1.1
  refine XGe.map (fun vv hend k => ?_) (fin h2 i2)
  refine XGo.go 1 rfl ?_
  refine XGo.scr (pc := 395) (kk := 1) (k := 1) (by decide) (by decide) hn hL hI.1.2.2.2.2 (lt1 hI.1.1) rfl rfl ?_
  refine XGo.scr (pc := 400) (kk := 2) (k := 2) (by decide) (by decide) hn hL hI.1.2.2.2.2 (lt1 hI.1.1) rfl rfl ?_
  refine XGo.scr (pc := 405) (kk := 3) (k := 3) (by decide) (by decide) hn hL hI.1.2.2.2.2 (lt1 hI.1.1) rfl rfl ?_
  refine XGo.scr (pc := 410) (kk := 4) (k := 4) (by decide) (by decide) hn hL hI.1.2.2.2.2 (lt1 hI.1.1) rfl rfl ?_
  refine XGo.call _ rfl xm_X6_has rfl rfl [.ref 13, .int _, .int _, .int _, .int _] [] rfl rfl (fun _ => ⟨13, _, rfl, e13, by decide, l13⟩) (Nat.le_of_ble_eq_true rfl) c1 ?_
  refine XGo.go 2 rfl ?_
  refine XGo.scr (pc := 420) (kk := 1) (k := 1) (by decide) (by decide) hn hL i1.1.2.2.2.2 (lt1 i1.1.1) rfl rfl ?_
  refine XGo.scr (pc := 425) (kk := 2) (k := 2) (by decide) (by decide) hn hL i1.1.2.2.2.2 (lt1 i1.1.1) rfl rfl ?_
  refine XGo.scr (pc := 430) (kk := 3) (k := 3) (by decide) (by decide) hn hL i1.1.2.2.2.2 (lt1 i1.1.1) rfl rfl ?_
  refine XGo.scr (pc := 435) (kk := 4) (k := 4) (by decide) (by decide) hn hL i1.1.2.2.2.2 (lt1 i1.1.1) rfl rfl ?_
  refine XGo.call _ rfl xm_X7_has rfl rfl [.ref 536, .int _, .int _, .int _, .int _] [] rfl rfl (fun _ => ⟨536, _, rfl, e536, by decide, l536⟩) (Nat.le_of_ble_eq_true rfl) c2 ?_
  exact XGo.go 2 rfl k
set_option maxRecDepth 100000 in
theorem law_c7 {n L : Nat} {xs : Nat → Int32} {h : XH} {Q : Option Value → XH → Prop} (hn : n + 5 ≤ L) (hL : L ≤ 2560) (hI : INVg L xs h) (fin : ∀ h2, INVg L xs h2 → XGe 11 xm_L (1177, xLl n, [], h2) Q) : XGe 11 xm_L (447, xLl n, [], h) Q := by
  obtain ⟨v, h1, c1, i1⟩ := Gc_began (sa xs n 1) (sa xs n 2) (sa xs n 3) hI
  obtain ⟨w, h2, c2, i2⟩ := Gm_began (sa xs n 1) (sa xs n 2) (sa xs n 3) i1
  obtain ⟨fs, e13, l13⟩ := rc13 hI.1.1
  obtain ⟨gs, e536, l536⟩ := rc536 i1.1.1
  refine XGe.map (fun vv hend k => ?_) (fin h2 i2)
  refine XGo.go 1 rfl ?_
  refine XGo.scr (pc := 448) (kk := 1) (k := 1) (by decide) (by decide) hn hL hI.1.2.2.2.2 (lt1 hI.1.1) rfl rfl ?_
  refine XGo.scr (pc := 453) (kk := 2) (k := 2) (by decide) (by decide) hn hL hI.1.2.2.2.2 (lt1 hI.1.1) rfl rfl ?_
  refine XGo.scr (pc := 458) (kk := 3) (k := 3) (by decide) (by decide) hn hL hI.1.2.2.2.2 (lt1 hI.1.1) rfl rfl ?_
  refine XGo.call _ rfl xm_X6_began rfl rfl [.ref 13, .int _, .int _, .int _] [] rfl rfl (fun _ => ⟨13, _, rfl, e13, by decide, l13⟩) (Nat.le_of_ble_eq_true rfl) c1 ?_
  refine XGo.go 2 rfl ?_
  refine XGo.scr (pc := 468) (kk := 1) (k := 1) (by decide) (by decide) hn hL i1.1.2.2.2.2 (lt1 i1.1.1) rfl rfl ?_
  refine XGo.scr (pc := 473) (kk := 2) (k := 2) (by decide) (by decide) hn hL i1.1.2.2.2.2 (lt1 i1.1.1) rfl rfl ?_
  refine XGo.scr (pc := 478) (kk := 3) (k := 3) (by decide) (by decide) hn hL i1.1.2.2.2.2 (lt1 i1.1.1) rfl rfl ?_
  refine XGo.call _ rfl xm_X7_began rfl rfl [.ref 536, .int _, .int _, .int _] [] rfl rfl (fun _ => ⟨536, _, rfl, e536, by decide, l536⟩) (Nat.le_of_ble_eq_true rfl) c2 ?_
  exact XGo.go 2 rfl k
set_option maxRecDepth 100000 in
theorem law_c8 {n L : Nat} {xs : Nat → Int32} {h : XH} {Q : Option Value → XH → Prop} (hn : n + 5 ≤ L) (hL : L ≤ 2560) (hI : INVg L xs h) (fin : ∀ h2, INVg L xs h2 → XGe 11 xm_L (1177, xLl n, [], h2) Q) : XGe 11 xm_L (490, xLl n, [], h) Q := by
  obtain ⟨v, h1, c1, i1⟩ := Gc_sure (sa xs n 1) (sa xs n 2) (sa xs n 3) hI
  obtain ⟨w, h2, c2, i2⟩ := Gm_sure (sa xs n 1) (sa xs n 2) (sa xs n 3) i1
  obtain ⟨fs, e13, l13⟩ := rc13 hI.1.1
  obtain ⟨gs, e536, l536⟩ := rc536 i1.1.1
  refine XGe.map (fun vv hend k => ?_) (fin h2 i2)
  refine XGo.go 1 rfl ?_
  refine XGo.scr (pc := 491) (kk := 1) (k := 1) (by decide) (by decide) hn hL hI.1.2.2.2.2 (lt1 hI.1.1) rfl rfl ?_
  refine XGo.scr (pc := 496) (kk := 2) (k := 2) (by decide) (by decide) hn hL hI.1.2.2.2.2 (lt1 hI.1.1) rfl rfl ?_
  refine XGo.scr (pc := 501) (kk := 3) (k := 3) (by decide) (by decide) hn hL hI.1.2.2.2.2 (lt1 hI.1.1) rfl rfl ?_
  refine XGo.call _ rfl xm_X6_sure rfl rfl [.ref 13, .int _, .int _, .int _] [] rfl rfl (fun _ => ⟨13, _, rfl, e13, by decide, l13⟩) (Nat.le_of_ble_eq_true rfl) c1 ?_
  refine XGo.go 2 rfl ?_
  refine XGo.scr (pc := 511) (kk := 1) (k := 1) (by decide) (by decide) hn hL i1.1.2.2.2.2 (lt1 i1.1.1) rfl rfl ?_
  refine XGo.scr (pc := 516) (kk := 2) (k := 2) (by decide) (by decide) hn hL i1.1.2.2.2.2 (lt1 i1.1.1) rfl rfl ?_
  refine XGo.scr (pc := 521) (kk := 3) (k := 3) (by decide) (by decide) hn hL i1.1.2.2.2.2 (lt1 i1.1.1) rfl rfl ?_
  refine XGo.call _ rfl xm_X7_sure rfl rfl [.ref 536, .int _, .int _, .int _] [] rfl rfl (fun _ => ⟨536, _, rfl, e536, by decide, l536⟩) (Nat.le_of_ble_eq_true rfl) c2 ?_
  exact XGo.go 2 rfl k
set_option maxRecDepth 100000 in
theorem law_c9 {n L : Nat} {xs : Nat → Int32} {h : XH} {Q : Option Value → XH → Prop} (hn : n + 5 ≤ L) (hL : L ≤ 2560) (hI : INVg L xs h) (fin : ∀ h2, INVg L xs h2 → XGe 11 xm_L (1177, xLl n, [], h2) Q) : XGe 11 xm_L (533, xLl n, [], h) Q := by
  obtain ⟨v, h1, c1, i1⟩ := Gc_holders (sa xs n 1) (sa xs n 2) hI
  obtain ⟨w, h2, c2, i2⟩ := Gm_holders (sa xs n 1) (sa xs n 2) i1
  obtain ⟨fs, e13, l13⟩ := rc13 hI.1.1
  obtain ⟨gs, e536, l536⟩ := rc536 i1.1.1
  refine XGe.map (fun vv hend k => ?_) (fin h2 i2)
  refine XGo.go 1 rfl ?_
  refine XGo.scr (pc := 534) (kk := 1) (k := 1) (by decide) (by decide) hn hL hI.1.2.2.2.2 (lt1 hI.1.1) rfl rfl ?_
  refine XGo.scr (pc := 539) (kk := 2) (k := 2) (by decide) (by decide) hn hL hI.1.2.2.2.2 (lt1 hI.1.1) rfl rfl ?_
  refine XGo.call _ rfl xm_X6_holders rfl rfl [.ref 13, .int _, .int _] [] rfl rfl (fun _ => ⟨13, _, rfl, e13, by decide, l13⟩) (Nat.le_of_ble_eq_true rfl) c1 ?_
  refine XGo.go 2 rfl ?_
  refine XGo.scr (pc := 549) (kk := 1) (k := 1) (by decide) (by decide) hn hL i1.1.2.2.2.2 (lt1 i1.1.1) rfl rfl ?_
  refine XGo.scr (pc := 554) (kk := 2) (k := 2) (by decide) (by decide) hn hL i1.1.2.2.2.2 (lt1 i1.1.1) rfl rfl ?_
  refine XGo.call _ rfl xm_X7_holders rfl rfl [.ref 536, .int _, .int _] [] rfl rfl (fun _ => ⟨536, _, rfl, e536, by decide, l536⟩) (Nat.le_of_ble_eq_true rfl) c2 ?_
  exact XGo.go 2 rfl k
set_option maxRecDepth 100000 in
theorem law_c10 {n L : Nat} {xs : Nat → Int32} {h : XH} {Q : Option Value → XH → Prop} (hn : n + 5 ≤ L) (hL : L ≤ 2560) (hI : INVg L xs h) (fin : ∀ h2, INVg L xs h2 → XGe 11 xm_L (1177, xLl n, [], h2) Q) : XGe 11 xm_L (566, xLl n, [], h) Q := by
  obtain ⟨v, h1, h2, c1, i1, q1, c2, i2⟩ := G_share (sa xs n 1) (sa xs n 2) (sa xs n 3) (sa xs n 4) hI
  obtain ⟨fs, e13, l13⟩ := rc13 hI.1.1
  obtain ⟨gs, e536, l536⟩ := rc536 i1
  refine XGe.map (fun vv hend k => ?_) (fin h2 i2)
  refine XGo.go 1 rfl ?_
  refine XGo.scr (pc := 567) (kk := 1) (k := 1) (by decide) (by decide) hn hL hI.1.2.2.2.2 (lt1 hI.1.1) rfl rfl ?_
  refine XGo.scr (pc := 572) (kk := 2) (k := 2) (by decide) (by decide) hn hL hI.1.2.2.2.2 (lt1 hI.1.1) rfl rfl ?_
  refine XGo.scr (pc := 577) (kk := 3) (k := 3) (by decide) (by decide) hn hL hI.1.2.2.2.2 (lt1 hI.1.1) rfl rfl ?_
  refine XGo.scr (pc := 582) (kk := 4) (k := 4) (by decide) (by decide) hn hL hI.1.2.2.2.2 (lt1 hI.1.1) rfl rfl ?_
  refine XGo.call _ rfl xm_X6_share rfl rfl [.ref 13, .int _, .int _, .int _, .int _] [] rfl rfl (fun _ => ⟨13, _, rfl, e13, by decide, l13⟩) (Nat.le_of_ble_eq_true rfl) c1 ?_
  refine XGo.go 1 rfl ?_
  refine XGo.scr (pc := 591) (kk := 1) (k := 1) (by decide) (by decide) hn hL (q1.trans hI.1.2.2.2.2) (lt1 i1) rfl rfl ?_
  refine XGo.scr (pc := 596) (kk := 2) (k := 2) (by decide) (by decide) hn hL (q1.trans hI.1.2.2.2.2) (lt1 i1) rfl rfl ?_
  refine XGo.scr (pc := 601) (kk := 3) (k := 3) (by decide) (by decide) hn hL (q1.trans hI.1.2.2.2.2) (lt1 i1) rfl rfl ?_
  refine XGo.scr (pc := 606) (kk := 4) (k := 4) (by decide) (by decide) hn hL (q1.trans hI.1.2.2.2.2) (lt1 i1) rfl rfl ?_
  refine XGo.call _ rfl xm_X7_share rfl rfl [.ref 536, .int _, .int _, .int _, .int _] [.int v] rfl rfl (fun _ => ⟨536, _, rfl, e536, by decide, l536⟩) (Nat.le_of_ble_eq_true rfl) c2 ?_
  refine XGo.go 1 rfl ?_
  exact XGo.ifp rfl k
set_option maxRecDepth 100000 in
theorem law_c11 {n L : Nat} {xs : Nat → Int32} {h : XH} {Q : Option Value → XH → Prop} (hn : n + 5 ≤ L) (hL : L ≤ 2560) (hI : INVg L xs h) (fin : ∀ h2, INVg L xs h2 → XGe 11 xm_L (1177, xLl n, [], h2) Q) : XGe 11 xm_L (619, xLl n, [], h) Q := by
  obtain ⟨v, h1, c1, i1⟩ := Gc_judged (sa xs n 1) (sa xs n 2) hI
  obtain ⟨w, h2, c2, i2⟩ := Gm_judged (sa xs n 1) (sa xs n 2) i1
  obtain ⟨fs, e13, l13⟩ := rc13 hI.1.1
  obtain ⟨gs, e536, l536⟩ := rc536 i1.1.1
  refine XGe.map (fun vv hend k => ?_) (fin h2 i2)
  refine XGo.go 1 rfl ?_
  refine XGo.scr (pc := 620) (kk := 1) (k := 1) (by decide) (by decide) hn hL hI.1.2.2.2.2 (lt1 hI.1.1) rfl rfl ?_
  refine XGo.scr (pc := 625) (kk := 2) (k := 2) (by decide) (by decide) hn hL hI.1.2.2.2.2 (lt1 hI.1.1) rfl rfl ?_
  refine XGo.call _ rfl xm_X6_judged rfl rfl [.ref 13, .int _, .int _] [] rfl rfl (fun _ => ⟨13, _, rfl, e13, by decide, l13⟩) (Nat.le_of_ble_eq_true rfl) c1 ?_
  refine XGo.go 2 rfl ?_
  refine XGo.scr (pc := 635) (kk := 1) (k := 1) (by decide) (by decide) hn hL i1.1.2.2.2.2 (lt1 i1.1.1) rfl rfl ?_
  refine XGo.scr (pc := 640) (kk := 2) (k := 2) (by decide) (by decide) hn hL i1.1.2.2.2.2 (lt1 i1.1.1) rfl rfl ?_
  refine XGo.call _ rfl xm_X7_judged rfl rfl [.ref 536, .int _, .int _] [] rfl rfl (fun _ => ⟨536, _, rfl, e536, by decide, l536⟩) (Nat.le_of_ble_eq_true rfl) c2 ?_
  exact XGo.go 2 rfl k
set_option maxRecDepth 100000 in
theorem law_c12 {n L : Nat} {xs : Nat → Int32} {h : XH} {Q : Option Value → XH → Prop} (hn : n + 5 ≤ L) (hL : L ≤ 2560) (hI : INVg L xs h) (fin : ∀ h2, INVg L xs h2 → XGe 11 xm_L (1177, xLl n, [], h2) Q) : XGe 11 xm_L (652, xLl n, [], h) Q := by
  obtain ⟨v, h1, c1, i1⟩ := Gc_row (sa xs n 1) hI
  obtain ⟨w, h2, c2, i2⟩ := Gm_row (sa xs n 1) i1
  obtain ⟨fs, e13, l13⟩ := rc13 hI.1.1
  obtain ⟨gs, e536, l536⟩ := rc536 i1.1.1
  refine XGe.map (fun vv hend k => ?_) (fin h2 i2)
  refine XGo.go 1 rfl ?_
  refine XGo.scr (pc := 653) (kk := 1) (k := 1) (by decide) (by decide) hn hL hI.1.2.2.2.2 (lt1 hI.1.1) rfl rfl ?_
  refine XGo.call _ rfl xm_X6_row rfl rfl [.ref 13, .int _] [] rfl rfl (fun _ => ⟨13, _, rfl, e13, by decide, l13⟩) (Nat.le_of_ble_eq_true rfl) c1 ?_
  refine XGo.go 2 rfl ?_
  refine XGo.scr (pc := 663) (kk := 1) (k := 1) (by decide) (by decide) hn hL i1.1.2.2.2.2 (lt1 i1.1.1) rfl rfl ?_
  refine XGo.call _ rfl xm_X7_row rfl rfl [.ref 536, .int _] [] rfl rfl (fun _ => ⟨536, _, rfl, e536, by decide, l536⟩) (Nat.le_of_ble_eq_true rfl) c2 ?_
  exact XGo.go 2 rfl k
set_option maxRecDepth 100000 in
theorem law_c13 {n L : Nat} {xs : Nat → Int32} {h : XH} {Q : Option Value → XH → Prop} (hn : n + 5 ≤ L) (hL : L ≤ 2560) (hI : INVg L xs h) (fin : ∀ h2, INVg L xs h2 → XGe 11 xm_L (1177, xLl n, [], h2) Q) : XGe 11 xm_L (675, xLl n, [], h) Q := by
  obtain ⟨v, h1, c1, i1⟩ := Gc_late (sa xs n 1) (sa xs n 2) (sa xs n 3) (sa xs n 4) hI
  obtain ⟨w, h2, c2, i2⟩ := Gm_late (sa xs n 1) (sa xs n 2) (sa xs n 3) (sa xs n 4) i1
  obtain ⟨fs, e13, l13⟩ := rc13 hI.1.1
  obtain ⟨gs, e536, l536⟩ := rc536 i1.1.1
  refine XGe.map (fun vv hend k => ?_) (fin h2 i2)
  refine XGo.go 1 rfl ?_
  refine XGo.scr (pc := 676) (kk := 1) (k := 1) (by decide) (by decide) hn hL hI.1.2.2.2.2 (lt1 hI.1.1) rfl rfl ?_
  refine XGo.scr (pc := 681) (kk := 2) (k := 2) (by decide) (by decide) hn hL hI.1.2.2.2.2 (lt1 hI.1.1) rfl rfl ?_
  refine XGo.scr (pc := 686) (kk := 3) (k := 3) (by decide) (by decide) hn hL hI.1.2.2.2.2 (lt1 hI.1.1) rfl rfl ?_
  refine XGo.scr (pc := 691) (kk := 4) (k := 4) (by decide) (by decide) hn hL hI.1.2.2.2.2 (lt1 hI.1.1) rfl rfl ?_
  refine XGo.call _ rfl xm_X6_late rfl rfl [.ref 13, .int _, .int _, .int _, .int _] [] rfl rfl (fun _ => ⟨13, _, rfl, e13, by decide, l13⟩) (Nat.le_of_ble_eq_true rfl) c1 ?_
  refine XGo.go 2 rfl ?_
  refine XGo.scr (pc := 701) (kk := 1) (k := 1) (by decide) (by decide) hn hL i1.1.2.2.2.2 (lt1 i1.1.1) rfl rfl ?_
  refine XGo.scr (pc := 706) (kk := 2) (k := 2) (by decide) (by decide) hn hL i1.1.2.2.2.2 (lt1 i1.1.1) rfl rfl ?_
  refine XGo.scr (pc := 711) (kk := 3) (k := 3) (by decide) (by decide) hn hL i1.1.2.2.2.2 (lt1 i1.1.1) rfl rfl ?_
  refine XGo.scr (pc := 716) (kk := 4) (k := 4) (by decide) (by decide) hn hL i1.1.2.2.2.2 (lt1 i1.1.1) rfl rfl ?_
  refine XGo.call _ rfl xm_X7_late rfl rfl [.ref 536, .int _, .int _, .int _, .int _] [] rfl rfl (fun _ => ⟨536, _, rfl, e536, by decide, l536⟩) (Nat.le_of_ble_eq_true rfl) c2 ?_
  exact XGo.go 2 rfl k
set_option maxRecDepth 100000 in
theorem law_c14 {n L : Nat} {xs : Nat → Int32} {h : XH} {Q : Option Value → XH → Prop} (hn : n + 5 ≤ L) (hL : L ≤ 2560) (hI : INVg L xs h) (fin : ∀ h2, INVg L xs h2 → XGe 11 xm_L (1177, xLl n, [], h2) Q) : XGe 11 xm_L (728, xLl n, [], h) Q := by
  obtain ⟨v, h1, c1, i1⟩ := Gc_measure (sa xs n 1) hI
  obtain ⟨w, h2, c2, i2⟩ := Gm_measure (sa xs n 1) i1
  obtain ⟨fs, e13, l13⟩ := rc13 hI.1.1
  obtain ⟨gs, e536, l536⟩ := rc536 i1.1.1
  refine XGe.map (fun vv hend k => ?_) (fin h2 i2)
  refine XGo.go 1 rfl ?_
  refine XGo.scr (pc := 729) (kk := 1) (k := 1) (by decide) (by decide) hn hL hI.1.2.2.2.2 (lt1 hI.1.1) rfl rfl ?_
  refine XGo.call _ rfl xm_X6_measure rfl rfl [.ref 13, .int _] [] rfl rfl (fun _ => ⟨13, _, rfl, e13, by decide, l13⟩) (Nat.le_of_ble_eq_true rfl) c1 ?_
  refine XGo.go 2 rfl ?_
  refine XGo.scr (pc := 739) (kk := 1) (k := 1) (by decide) (by decide) hn hL i1.1.2.2.2.2 (lt1 i1.1.1) rfl rfl ?_
  refine XGo.call _ rfl xm_X7_measure rfl rfl [.ref 536, .int _] [] rfl rfl (fun _ => ⟨536, _, rfl, e536, by decide, l536⟩) (Nat.le_of_ble_eq_true rfl) c2 ?_
  exact XGo.go 2 rfl k
set_option maxRecDepth 100000 in
theorem law_c15 {n L : Nat} {xs : Nat → Int32} {h : XH} {Q : Option Value → XH → Prop} (hn : n + 5 ≤ L) (hL : L ≤ 2560) (hI : INVg L xs h) (fin : ∀ h2, INVg L xs h2 → XGe 11 xm_L (1177, xLl n, [], h2) Q) : XGe 11 xm_L (751, xLl n, [], h) Q := by
  obtain ⟨v, h1, c1, i1⟩ := Gc_see (sa xs n 1) (sa xs n 2) (sa xs n 3) (sa xs n 4) hI
  obtain ⟨w, h2, c2, i2⟩ := Gm_see (sa xs n 1) (sa xs n 2) (sa xs n 3) (sa xs n 4) i1
  obtain ⟨fs, e13, l13⟩ := rc13 hI.1.1
  obtain ⟨gs, e536, l536⟩ := rc536 i1.1.1
  refine XGe.map (fun vv hend k => ?_) (fin h2 i2)
  refine XGo.go 1 rfl ?_
  refine XGo.scr (pc := 752) (kk := 1) (k := 1) (by decide) (by decide) hn hL hI.1.2.2.2.2 (lt1 hI.1.1) rfl rfl ?_
  refine XGo.scr (pc := 757) (kk := 2) (k := 2) (by decide) (by decide) hn hL hI.1.2.2.2.2 (lt1 hI.1.1) rfl rfl ?_
  refine XGo.scr (pc := 762) (kk := 3) (k := 3) (by decide) (by decide) hn hL hI.1.2.2.2.2 (lt1 hI.1.1) rfl rfl ?_
  refine XGo.scr (pc := 767) (kk := 4) (k := 4) (by decide) (by decide) hn hL hI.1.2.2.2.2 (lt1 hI.1.1) rfl rfl ?_
  refine XGo.call _ rfl xm_X6_see rfl rfl [.ref 13, .int _, .int _, .int _, .int _] [] rfl rfl (fun _ => ⟨13, _, rfl, e13, by decide, l13⟩) (Nat.le_of_ble_eq_true rfl) c1 ?_
  refine XGo.go 2 rfl ?_
  refine XGo.scr (pc := 777) (kk := 1) (k := 1) (by decide) (by decide) hn hL i1.1.2.2.2.2 (lt1 i1.1.1) rfl rfl ?_
  refine XGo.scr (pc := 782) (kk := 2) (k := 2) (by decide) (by decide) hn hL i1.1.2.2.2.2 (lt1 i1.1.1) rfl rfl ?_
  refine XGo.scr (pc := 787) (kk := 3) (k := 3) (by decide) (by decide) hn hL i1.1.2.2.2.2 (lt1 i1.1.1) rfl rfl ?_
  refine XGo.scr (pc := 792) (kk := 4) (k := 4) (by decide) (by decide) hn hL i1.1.2.2.2.2 (lt1 i1.1.1) rfl rfl ?_
  refine XGo.call _ rfl xm_X7_see rfl rfl [.ref 536, .int _, .int _, .int _, .int _] [] rfl rfl (fun _ => ⟨536, _, rfl, e536, by decide, l536⟩) (Nat.le_of_ble_eq_true rfl) c2 ?_
  exact XGo.go 2 rfl k
set_option maxRecDepth 100000 in
theorem law_c16 {n L : Nat} {xs : Nat → Int32} {h : XH} {Q : Option Value → XH → Prop} (hn : n + 5 ≤ L) (hL : L ≤ 2560) (hI : INVg L xs h) (fin : ∀ h2, INVg L xs h2 → XGe 11 xm_L (1177, xLl n, [], h2) Q) : XGe 11 xm_L (804, xLl n, [], h) Q := by
  obtain ⟨v, h1, h2, c1, i1, q1, c2, i2⟩ := G_strike (sa xs n 1) (sa xs n 2) hI
  obtain ⟨fs, e13, l13⟩ := rc13 hI.1.1
  obtain ⟨gs, e536, l536⟩ := rc536 i1
  refine XGe.map (fun vv hend k => ?_) (fin h2 i2)
  refine XGo.go 1 rfl ?_
  refine XGo.scr (pc := 805) (kk := 1) (k := 1) (by decide) (by decide) hn hL hI.1.2.2.2.2 (lt1 hI.1.1) rfl rfl ?_
  refine XGo.scr (pc := 810) (kk := 2) (k := 2) (by decide) (by decide) hn hL hI.1.2.2.2.2 (lt1 hI.1.1) rfl rfl ?_
  refine XGo.call _ rfl xm_X6_strike rfl rfl [.ref 13, .int _, .int _] [] rfl rfl (fun _ => ⟨13, _, rfl, e13, by decide, l13⟩) (Nat.le_of_ble_eq_true rfl) c1 ?_
  refine XGo.go 2 rfl ?_
  refine XGo.scr (pc := 820) (kk := 1) (k := 1) (by decide) (by decide) hn hL (q1.trans hI.1.2.2.2.2) (lt1 i1) rfl rfl ?_
  refine XGo.scr (pc := 825) (kk := 2) (k := 2) (by decide) (by decide) hn hL (q1.trans hI.1.2.2.2.2) (lt1 i1) rfl rfl ?_
  refine XGo.call _ rfl xm_X7_strike rfl rfl [.ref 536, .int _, .int _] [] rfl rfl (fun _ => ⟨536, _, rfl, e536, by decide, l536⟩) (Nat.le_of_ble_eq_true rfl) c2 ?_
  exact XGo.go 2 rfl k
set_option maxRecDepth 100000 in
theorem law_c17 {n L : Nat} {xs : Nat → Int32} {h : XH} {Q : Option Value → XH → Prop} (hn : n + 5 ≤ L) (hL : L ≤ 2560) (hI : INVg L xs h) (fin : ∀ h2, INVg L xs h2 → XGe 11 xm_L (1177, xLl n, [], h2) Q) : XGe 11 xm_L (837, xLl n, [], h) Q := by
  obtain ⟨v, h1, h2, c1, i1, q1, c2, i2⟩ := G_mend (sa xs n 1) (sa xs n 2) (sa xs n 3) hI
  obtain ⟨fs, e13, l13⟩ := rc13 hI.1.1
  obtain ⟨gs, e536, l536⟩ := rc536 i1
  refine XGe.map (fun vv hend k => ?_) (fin h2 i2)
  refine XGo.go 1 rfl ?_
  refine XGo.scr (pc := 838) (kk := 1) (k := 1) (by decide) (by decide) hn hL hI.1.2.2.2.2 (lt1 hI.1.1) rfl rfl ?_
  refine XGo.scr (pc := 843) (kk := 2) (k := 2) (by decide) (by decide) hn hL hI.1.2.2.2.2 (lt1 hI.1.1) rfl rfl ?_
  refine XGo.scr (pc := 848) (kk := 3) (k := 3) (by decide) (by decide) hn hL hI.1.2.2.2.2 (lt1 hI.1.1) rfl rfl ?_
  refine XGo.call _ rfl xm_X6_mend rfl rfl [.ref 13, .int _, .int _, .int _] [] rfl rfl (fun _ => ⟨13, _, rfl, e13, by decide, l13⟩) (Nat.le_of_ble_eq_true rfl) c1 ?_
  refine XGo.go 2 rfl ?_
  refine XGo.scr (pc := 858) (kk := 1) (k := 1) (by decide) (by decide) hn hL (q1.trans hI.1.2.2.2.2) (lt1 i1) rfl rfl ?_
  refine XGo.scr (pc := 863) (kk := 2) (k := 2) (by decide) (by decide) hn hL (q1.trans hI.1.2.2.2.2) (lt1 i1) rfl rfl ?_
  refine XGo.scr (pc := 868) (kk := 3) (k := 3) (by decide) (by decide) hn hL (q1.trans hI.1.2.2.2.2) (lt1 i1) rfl rfl ?_
  refine XGo.call _ rfl xm_X7_mend rfl rfl [.ref 536, .int _, .int _, .int _] [] rfl rfl (fun _ => ⟨536, _, rfl, e536, by decide, l536⟩) (Nat.le_of_ble_eq_true rfl) c2 ?_
  exact XGo.go 2 rfl k
set_option maxRecDepth 100000 in
theorem law_c18 {n L : Nat} {xs : Nat → Int32} {h : XH} {Q : Option Value → XH → Prop} (hn : n + 5 ≤ L) (hL : L ≤ 2560) (hI : INVg L xs h) (fin : ∀ h2, INVg L xs h2 → XGe 11 xm_L (1177, xLl n, [], h2) Q) : XGe 11 xm_L (880, xLl n, [], h) Q := by
  obtain ⟨v, h1, c1, i1⟩ := Gc_both (sa xs n 1) (sa xs n 2) (sa xs n 3) (sa xs n 4) hI
  obtain ⟨w, h2, c2, i2⟩ := Gm_both (sa xs n 1) (sa xs n 2) (sa xs n 3) (sa xs n 4) i1
  obtain ⟨fs, e13, l13⟩ := rc13 hI.1.1
  obtain ⟨gs, e536, l536⟩ := rc536 i1.1.1
  refine XGe.map (fun vv hend k => ?_) (fin h2 i2)
  refine XGo.go 1 rfl ?_
  refine XGo.scr (pc := 881) (kk := 1) (k := 1) (by decide) (by decide) hn hL hI.1.2.2.2.2 (lt1 hI.1.1) rfl rfl ?_
  refine XGo.scr (pc := 886) (kk := 2) (k := 2) (by decide) (by decide) hn hL hI.1.2.2.2.2 (lt1 hI.1.1) rfl rfl ?_
  refine XGo.scr (pc := 891) (kk := 3) (k := 3) (by decide) (by decide) hn hL hI.1.2.2.2.2 (lt1 hI.1.1) rfl rfl ?_
  refine XGo.scr (pc := 896) (kk := 4) (k := 4) (by decide) (by decide) hn hL hI.1.2.2.2.2 (lt1 hI.1.1) rfl rfl ?_
  refine XGo.call _ rfl xm_X6_both rfl rfl [.ref 13, .int _, .int _, .int _, .int _] [] rfl rfl (fun _ => ⟨13, _, rfl, e13, by decide, l13⟩) (Nat.le_of_ble_eq_true rfl) c1 ?_
  refine XGo.go 2 rfl ?_
  refine XGo.scr (pc := 906) (kk := 1) (k := 1) (by decide) (by decide) hn hL i1.1.2.2.2.2 (lt1 i1.1.1) rfl rfl ?_
  refine XGo.scr (pc := 911) (kk := 2) (k := 2) (by decide) (by decide) hn hL i1.1.2.2.2.2 (lt1 i1.1.1) rfl rfl ?_
  refine XGo.scr (pc := 916) (kk := 3) (k := 3) (by decide) (by decide) hn hL i1.1.2.2.2.2 (lt1 i1.1.1) rfl rfl ?_
  refine XGo.scr (pc := 921) (kk := 4) (k := 4) (by decide) (by decide) hn hL i1.1.2.2.2.2 (lt1 i1.1.1) rfl rfl ?_
  refine XGo.call _ rfl xm_X7_both rfl rfl [.ref 536, .int _, .int _, .int _, .int _] [] rfl rfl (fun _ => ⟨536, _, rfl, e536, by decide, l536⟩) (Nat.le_of_ble_eq_true rfl) c2 ?_
  exact XGo.go 2 rfl k
set_option maxRecDepth 100000 in
theorem law_c19 {n L : Nat} {xs : Nat → Int32} {h : XH} {Q : Option Value → XH → Prop} (hn : n + 5 ≤ L) (hL : L ≤ 2560) (hI : INVg L xs h) (fin : ∀ h2, INVg L xs h2 → XGe 11 xm_L (1177, xLl n, [], h2) Q) : XGe 11 xm_L (933, xLl n, [], h) Q := by
  obtain ⟨v, h1, c1, i1⟩ := Gc_clash (sa xs n 1) (sa xs n 2) (sa xs n 3) hI
  obtain ⟨w, h2, c2, i2⟩ := Gm_clash (sa xs n 1) (sa xs n 2) (sa xs n 3) i1
  obtain ⟨fs, e13, l13⟩ := rc13 hI.1.1
  obtain ⟨gs, e536, l536⟩ := rc536 i1.1.1
  refine XGe.map (fun vv hend k => ?_) (fin h2 i2)
  refine XGo.go 1 rfl ?_
  refine XGo.scr (pc := 934) (kk := 1) (k := 1) (by decide) (by decide) hn hL hI.1.2.2.2.2 (lt1 hI.1.1) rfl rfl ?_
  refine XGo.scr (pc := 939) (kk := 2) (k := 2) (by decide) (by decide) hn hL hI.1.2.2.2.2 (lt1 hI.1.1) rfl rfl ?_
  refine XGo.scr (pc := 944) (kk := 3) (k := 3) (by decide) (by decide) hn hL hI.1.2.2.2.2 (lt1 hI.1.1) rfl rfl ?_
  refine XGo.call _ rfl xm_X6_clash rfl rfl [.ref 13, .int _, .int _, .int _] [] rfl rfl (fun _ => ⟨13, _, rfl, e13, by decide, l13⟩) (Nat.le_of_ble_eq_true rfl) c1 ?_
  refine XGo.go 2 rfl ?_
  refine XGo.scr (pc := 954) (kk := 1) (k := 1) (by decide) (by decide) hn hL i1.1.2.2.2.2 (lt1 i1.1.1) rfl rfl ?_
  refine XGo.scr (pc := 959) (kk := 2) (k := 2) (by decide) (by decide) hn hL i1.1.2.2.2.2 (lt1 i1.1.1) rfl rfl ?_
  refine XGo.scr (pc := 964) (kk := 3) (k := 3) (by decide) (by decide) hn hL i1.1.2.2.2.2 (lt1 i1.1.1) rfl rfl ?_
  refine XGo.call _ rfl xm_X7_clash rfl rfl [.ref 536, .int _, .int _, .int _] [] rfl rfl (fun _ => ⟨536, _, rfl, e536, by decide, l536⟩) (Nat.le_of_ble_eq_true rfl) c2 ?_
  exact XGo.go 2 rfl k
set_option maxRecDepth 100000 in
theorem law_c20 {n L : Nat} {xs : Nat → Int32} {h : XH} {Q : Option Value → XH → Prop} (hn : n + 5 ≤ L) (hL : L ≤ 2560) (hI : INVg L xs h) (fin : ∀ h2, INVg L xs h2 → XGe 11 xm_L (1177, xLl n, [], h2) Q) : XGe 11 xm_L (976, xLl n, [], h) Q := by
  obtain ⟨v, h1, c1, i1⟩ := Gc_same (sa xs n 1) (sa xs n 2) hI
  obtain ⟨w, h2, c2, i2⟩ := Gm_same (sa xs n 1) (sa xs n 2) i1
  obtain ⟨fs, e13, l13⟩ := rc13 hI.1.1
  obtain ⟨gs, e536, l536⟩ := rc536 i1.1.1
  refine XGe.map (fun vv hend k => ?_) (fin h2 i2)
  refine XGo.go 1 rfl ?_
  refine XGo.scr (pc := 977) (kk := 1) (k := 1) (by decide) (by decide) hn hL hI.1.2.2.2.2 (lt1 hI.1.1) rfl rfl ?_
  refine XGo.scr (pc := 982) (kk := 2) (k := 2) (by decide) (by decide) hn hL hI.1.2.2.2.2 (lt1 hI.1.1) rfl rfl ?_
  refine XGo.call _ rfl xm_X6_same rfl rfl [.ref 13, .int _, .int _] [] rfl rfl (fun _ => ⟨13, _, rfl, e13, by decide, l13⟩) (Nat.le_of_ble_eq_true rfl) c1 ?_
  refine XGo.go 2 rfl ?_
  refine XGo.scr (pc := 992) (kk := 1) (k := 1) (by decide) (by decide) hn hL i1.1.2.2.2.2 (lt1 i1.1.1) rfl rfl ?_
  refine XGo.scr (pc := 997) (kk := 2) (k := 2) (by decide) (by decide) hn hL i1.1.2.2.2.2 (lt1 i1.1.1) rfl rfl ?_
  refine XGo.call _ rfl xm_X7_same rfl rfl [.ref 536, .int _, .int _] [] rfl rfl (fun _ => ⟨536, _, rfl, e536, by decide, l536⟩) (Nat.le_of_ble_eq_true rfl) c2 ?_
  exact XGo.go 2 rfl k
set_option maxRecDepth 100000 in
theorem law_c21 {n L : Nat} {xs : Nat → Int32} {h : XH} {Q : Option Value → XH → Prop} (hn : n + 5 ≤ L) (hL : L ≤ 2560) (hI : INVg L xs h) (fin : ∀ h2, INVg L xs h2 → XGe 11 xm_L (1177, xLl n, [], h2) Q) : XGe 11 xm_L (1009, xLl n, [], h) Q := by
  obtain ⟨v, h1, c1, i1⟩ := Gc_act (sa xs n 1) (sa xs n 2) (sa xs n 3) (sa xs n 4) hI
  obtain ⟨w, h2, c2, i2⟩ := Gm_act (sa xs n 1) (sa xs n 2) (sa xs n 3) (sa xs n 4) i1
  obtain ⟨fs, e13, l13⟩ := rc13 hI.1.1
  obtain ⟨gs, e536, l536⟩ := rc536 i1.1.1
  refine XGe.map (fun vv hend k => ?_) (fin h2 i2)
  refine XGo.go 1 rfl ?_
  refine XGo.scr (pc := 1010) (kk := 1) (k := 1) (by decide) (by decide) hn hL hI.1.2.2.2.2 (lt1 hI.1.1) rfl rfl ?_
  refine XGo.scr (pc := 1015) (kk := 2) (k := 2) (by decide) (by decide) hn hL hI.1.2.2.2.2 (lt1 hI.1.1) rfl rfl ?_
  refine XGo.scr (pc := 1020) (kk := 3) (k := 3) (by decide) (by decide) hn hL hI.1.2.2.2.2 (lt1 hI.1.1) rfl rfl ?_
  refine XGo.scr (pc := 1025) (kk := 4) (k := 4) (by decide) (by decide) hn hL hI.1.2.2.2.2 (lt1 hI.1.1) rfl rfl ?_
  refine XGo.call _ rfl xm_X6_act rfl rfl [.ref 13, .int _, .int _, .int _, .int _] [] rfl rfl (fun _ => ⟨13, _, rfl, e13, by decide, l13⟩) (Nat.le_of_ble_eq_true rfl) c1 ?_
  refine XGo.go 2 rfl ?_
  refine XGo.scr (pc := 1035) (kk := 1) (k := 1) (by decide) (by decide) hn hL i1.1.2.2.2.2 (lt1 i1.1.1) rfl rfl ?_
  refine XGo.scr (pc := 1040) (kk := 2) (k := 2) (by decide) (by decide) hn hL i1.1.2.2.2.2 (lt1 i1.1.1) rfl rfl ?_
  refine XGo.scr (pc := 1045) (kk := 3) (k := 3) (by decide) (by decide) hn hL i1.1.2.2.2.2 (lt1 i1.1.1) rfl rfl ?_
  refine XGo.scr (pc := 1050) (kk := 4) (k := 4) (by decide) (by decide) hn hL i1.1.2.2.2.2 (lt1 i1.1.1) rfl rfl ?_
  refine XGo.call _ rfl xm_X7_act rfl rfl [.ref 536, .int _, .int _, .int _, .int _] [] rfl rfl (fun _ => ⟨536, _, rfl, e536, by decide, l536⟩) (Nat.le_of_ble_eq_true rfl) c2 ?_
  exact XGo.go 2 rfl k
set_option maxRecDepth 100000 in
theorem law_c22 {n L : Nat} {xs : Nat → Int32} {h : XH} {Q : Option Value → XH → Prop} (hn : n + 5 ≤ L) (hL : L ≤ 2560) (hI : INVg L xs h) (fin : ∀ h2, INVg L xs h2 → XGe 11 xm_L (1177, xLl n, [], h2) Q) : XGe 11 xm_L (1062, xLl n, [], h) Q := by
  obtain ⟨v, h1, c1, i1⟩ := Gc_trace (sa xs n 1) hI
  obtain ⟨w, h2, c2, i2⟩ := Gm_trace (sa xs n 1) i1
  obtain ⟨fs, e13, l13⟩ := rc13 hI.1.1
  obtain ⟨gs, e536, l536⟩ := rc536 i1.1.1
  refine XGe.map (fun vv hend k => ?_) (fin h2 i2)
  refine XGo.go 1 rfl ?_
  refine XGo.scr (pc := 1063) (kk := 1) (k := 1) (by decide) (by decide) hn hL hI.1.2.2.2.2 (lt1 hI.1.1) rfl rfl ?_
  refine XGo.call _ rfl xm_X6_trace rfl rfl [.ref 13, .int _] [] rfl rfl (fun _ => ⟨13, _, rfl, e13, by decide, l13⟩) (Nat.le_of_ble_eq_true rfl) c1 ?_
  refine XGo.go 2 rfl ?_
  refine XGo.scr (pc := 1073) (kk := 1) (k := 1) (by decide) (by decide) hn hL i1.1.2.2.2.2 (lt1 i1.1.1) rfl rfl ?_
  refine XGo.call _ rfl xm_X7_trace rfl rfl [.ref 536, .int _] [] rfl rfl (fun _ => ⟨536, _, rfl, e536, by decide, l536⟩) (Nat.le_of_ble_eq_true rfl) c2 ?_
  exact XGo.go 2 rfl k
set_option maxRecDepth 100000 in
theorem law_c23 {n L : Nat} {xs : Nat → Int32} {h : XH} {Q : Option Value → XH → Prop} (hn : n + 5 ≤ L) (hL : L ≤ 2560) (hI : INVg L xs h) (fin : ∀ h2, INVg L xs h2 → XGe 11 xm_L (1177, xLl n, [], h2) Q) : XGe 11 xm_L (1085, xLl n, [], h) Q := by
  obtain ⟨v, h1, c1, i1⟩ := Gc_as (sa xs n 1) (sa xs n 2) (sa xs n 3) hI
  obtain ⟨w, h2, c2, i2⟩ := Gm_as (sa xs n 1) (sa xs n 2) (sa xs n 3) i1
  obtain ⟨fs, e13, l13⟩ := rc13 hI.1.1
  obtain ⟨gs, e536, l536⟩ := rc536 i1.1.1
  refine XGe.map (fun vv hend k => ?_) (fin h2 i2)
  refine XGo.go 1 rfl ?_
  refine XGo.scr (pc := 1086) (kk := 1) (k := 1) (by decide) (by decide) hn hL hI.1.2.2.2.2 (lt1 hI.1.1) rfl rfl ?_
  refine XGo.scr (pc := 1091) (kk := 2) (k := 2) (by decide) (by decide) hn hL hI.1.2.2.2.2 (lt1 hI.1.1) rfl rfl ?_
  refine XGo.scr (pc := 1096) (kk := 3) (k := 3) (by decide) (by decide) hn hL hI.1.2.2.2.2 (lt1 hI.1.1) rfl rfl ?_
  refine XGo.call _ rfl xm_X6_as rfl rfl [.ref 13, .int _, .int _, .int _] [] rfl rfl (fun _ => ⟨13, _, rfl, e13, by decide, l13⟩) (Nat.le_of_ble_eq_true rfl) c1 ?_
  refine XGo.go 2 rfl ?_
  refine XGo.scr (pc := 1106) (kk := 1) (k := 1) (by decide) (by decide) hn hL i1.1.2.2.2.2 (lt1 i1.1.1) rfl rfl ?_
  refine XGo.scr (pc := 1111) (kk := 2) (k := 2) (by decide) (by decide) hn hL i1.1.2.2.2.2 (lt1 i1.1.1) rfl rfl ?_
  refine XGo.scr (pc := 1116) (kk := 3) (k := 3) (by decide) (by decide) hn hL i1.1.2.2.2.2 (lt1 i1.1.1) rfl rfl ?_
  refine XGo.call _ rfl xm_X7_as rfl rfl [.ref 536, .int _, .int _, .int _] [] rfl rfl (fun _ => ⟨536, _, rfl, e536, by decide, l536⟩) (Nat.le_of_ble_eq_true rfl) c2 ?_
  exact XGo.go 2 rfl k
set_option maxRecDepth 100000 in
theorem law_c24 {n L : Nat} {xs : Nat → Int32} {h : XH} {Q : Option Value → XH → Prop} (hn : n + 5 ≤ L) (hL : L ≤ 2560) (hI : INVg L xs h) (fin : ∀ h2, INVg L xs h2 → XGe 11 xm_L (1177, xLl n, [], h2) Q) : XGe 11 xm_L (1128, xLl n, [], h) Q := by
  obtain ⟨v, h1, h2, c1, i1, q1, c2, i2⟩ := G_image  hI
  obtain ⟨fs, e13, l13⟩ := rc13 hI.1.1
  obtain ⟨gs, e536, l536⟩ := rc536 i1
  refine XGe.map (fun vv hend k => ?_) (fin h2 i2)
  refine XGo.go 1 rfl ?_
  refine XGo.call _ rfl xm_X6_image rfl rfl [.ref 13] [] rfl rfl (fun _ => ⟨13, _, rfl, e13, by decide, l13⟩) (Nat.le_of_ble_eq_true rfl) c1 ?_
  refine XGo.go 2 rfl ?_
  refine XGo.call _ rfl xm_X7_image rfl rfl [.ref 536] [] rfl rfl (fun _ => ⟨536, _, rfl, e536, by decide, l536⟩) (Nat.le_of_ble_eq_true rfl) c2 ?_
  exact XGo.go 2 rfl k
set_option maxRecDepth 100000 in
theorem law_c25 {n L : Nat} {xs : Nat → Int32} {h : XH} {Q : Option Value → XH → Prop} (hn : n + 5 ≤ L) (hL : L ≤ 2560) (hI : INVg L xs h) (fin : ∀ h2, INVg L xs h2 → XGe 11 xm_L (1177, xLl n, [], h2) Q) : XGe 11 xm_L (1141, xLl n, [], h) Q := by
  obtain ⟨v, h1, h2, c1, i1, q1, c2, i2⟩ := G_undo  hI
  obtain ⟨fs, e13, l13⟩ := rc13 hI.1.1
  obtain ⟨gs, e536, l536⟩ := rc536 i1
  refine XGe.map (fun vv hend k => ?_) (fin h2 i2)
  refine XGo.go 1 rfl ?_
  refine XGo.call _ rfl xm_X6_undo rfl rfl [.ref 13] [] rfl rfl (fun _ => ⟨13, _, rfl, e13, by decide, l13⟩) (Nat.le_of_ble_eq_true rfl) c1 ?_
  refine XGo.go 2 rfl ?_
  refine XGo.call _ rfl xm_X7_undo rfl rfl [.ref 536] [] rfl rfl (fun _ => ⟨536, _, rfl, e536, by decide, l536⟩) (Nat.le_of_ble_eq_true rfl) c2 ?_
  exact XGo.go 2 rfl k
set_option maxRecDepth 100000 in
theorem law_c26 {n L : Nat} {xs : Nat → Int32} {h : XH} {Q : Option Value → XH → Prop} (hn : n + 5 ≤ L) (hL : L ≤ 2560) (hI : INVg L xs h) (fin : ∀ h2, INVg L xs h2 → XGe 11 xm_L (1177, xLl n, [], h2) Q) : XGe 11 xm_L (1154, xLl n, [], h) Q := by
  obtain ⟨v, h1, c1, i1⟩ := Gc_count (sa xs n 1) hI
  obtain ⟨w, h2, c2, i2⟩ := Gm_count (sa xs n 1) i1
  obtain ⟨fs, e13, l13⟩ := rc13 hI.1.1
  obtain ⟨gs, e536, l536⟩ := rc536 i1.1.1
  refine XGe.map (fun vv hend k => ?_) (fin h2 i2)
  refine XGo.go 1 rfl ?_
  refine XGo.scr (pc := 1155) (kk := 1) (k := 1) (by decide) (by decide) hn hL hI.1.2.2.2.2 (lt1 hI.1.1) rfl rfl ?_
  refine XGo.call _ rfl xm_X6_count rfl rfl [.ref 13, .int _] [] rfl rfl (fun _ => ⟨13, _, rfl, e13, by decide, l13⟩) (Nat.le_of_ble_eq_true rfl) c1 ?_
  refine XGo.go 2 rfl ?_
  refine XGo.scr (pc := 1165) (kk := 1) (k := 1) (by decide) (by decide) hn hL i1.1.2.2.2.2 (lt1 i1.1.1) rfl rfl ?_
  refine XGo.call _ rfl xm_X7_count rfl rfl [.ref 536, .int _] [] rfl rfl (fun _ => ⟨536, _, rfl, e536, by decide, l536⟩) (Nat.le_of_ble_eq_true rfl) c2 ?_
  exact XGo.go 2 rfl k
