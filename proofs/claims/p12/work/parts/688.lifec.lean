/-! life, the class's side: its answer -/
theorem lvM_b8 {f : Nat → Int32} {set : Int32} {y : Nat} {j : Nat} (hj : j < 8) : ∀ (k : Nat) (s : LV), (lvM f set y k s).1 j = s.1 j
  | 0, _ => rfl
  | k + 1, s => by
    unfold lvM
    split
    · rw [lvC_b (by omega), lvM_b8 hj k s]
    · exact lvM_b8 hj k s
theorem lvY_b8 {f : Nat → Int32} {set : Int32} {m : Nat} {j : Nat} (hj : j < 8) : ∀ (y : Nat) (s : LV), (lvY f set m y s).1 j = s.1 j
  | 0, _ => rfl
  | y + 1, s => by
    unfold lvY
    rw [lvM_b8 hj, lvY_b8 hj y s]
theorem lvOf_b8 {f : Nat → Int32} {n m : Nat} {set : Int32} {j : Nat} (hj : j < 8) : (lvOf f n m set).1 j = if j < n then Int32.ofInt 0 else i99 := lvY_b8 hj 40 _
theorem at_in (d : Nat) {h : XH} {r n : Nat} {f : Nat → Int32} {i : Int32} (hr : h.2.2 r = .inr (.inl (0, n, f))) (hk : r < h.1) (hn : n < 2147483648) (h0 : 0 ≤ i.toInt) (h1 : i.toNatClampNeg < n) : XCall xM (d + 1) 102 [.ref r, .int i] h (some (.int (f i.toNatClampNeg))) h := by
  have q := k_at d h r n f i hr hk hn
  rw [if_neg (fun z => z.elim (fun z => by have := lt0_iff.mp z; omega) (fun z => by omega))] at q
  exact q
theorem neg_le {a y : Int32} (ha : 0 ≤ a.toInt ∧ a.toInt ≤ 90) (hy : 0 ≤ y.toInt) : (- a) ≤ y := by
  rw [Int32.le_iff_toInt_le, ← Int32.zero_sub, i32_sub (by rw [z0_int]; omega) (by rw [z0_int]; omega), z0_int]
  omega
theorem sub_neg' (a y : Int32) : y - (- a) = a + y := by
  rw [Int32.sub_neg, Int32.add_comm]
theorem bit_at {x p : Int32} {i : Nat} (e : p = nI i) (hi : i < 32) : (x >>> (p &&& 31)) &&& Int32.ofInt 1 = if lvB x i then 1 else 0 := by
  rw [e]
  exact lvB_01 hi
theorem and63_id {c : Int32} (h0 : 0 ≤ c.toInt) (h1 : c.toInt ≤ 63) : c &&& c63 = c := by
  have e1 := i32_nat c
  have e2 := i32_nat (c &&& c63)
  have e3 : (c &&& c63).toBitVec.toNat = c.toBitVec.toNat := by
    rw [Int32.toBitVec_and, BitVec.toNat_and, show c63.toBitVec.toNat = 2 ^ 6 - 1 from rfl, Nat.and_two_pow_sub_one_eq_mod]
    have := c.toBitVec.isLt
    split at e1 <;> omega
  refine Int32.toInt_inj.mp ?_
  rw [e1, e2, e3]
theorem w_rg_1419 {z : Nat} (h1 : 14 ≤ z) (h2 : z ≤ 19) : w_rg z = z := by
  have : ((List.range 6).all fun j => Nat.beq (w_rg (14 + j)) (14 + j)) = true := by decide +kernel
  have := Nat.eq_of_beq_eq_true (List.all_eq_true.mp this (z - 14) (List.mem_range.mpr (by omega)))
  rwa [show 14 + (z - 14) = z by omega] at this
set_option maxRecDepth 100000 in
/-- where life has been told a course -/
theorem life6_c {d : Nat} {h : XH} (iI : AInv w_W h) (qS : QS (vw w_W h)) {k : Nat} (hk : k < 64) {n m : Nat} (hn : n ≤ 8) {g ag : Nat → Int32} {c : Int32} (hL : LKv (vw w_W h) n m g ag (lvOf g n m c) (88 + 7 * k)) (hag : ∀ j, j < n → 0 ≤ (ag j).toInt ∧ (ag j).toInt ≤ 90) {p y w : Int32} (hp : 0 ≤ p.toInt ∧ p.toInt ≤ 13) (hw : 0 ≤ w.toInt ∧ w.toInt ≤ 2) (hc : isCo m c) (hy : 0 ≤ y.toInt ∧ y.toInt ≤ 40) :
    XGo (d + 1) xm_X6_life (43, lfL p c y w none none, [.ref (88 + 7 * k)], h) (some (.int (lcode n m (lvOf g n m c) ag p c y w))) h := by
  obtain ⟨ep, lp⟩ := i32_nI hp.1 hp.2
  obtain ⟨ey, ly⟩ := i32_nI hy.1 hy.2
  have lp : p.toNatClampNeg < 14 := by omega
  have ly : y.toNatClampNeg ≤ 40 := by omega
  have ty : (y.toNatClampNeg : Int) = y.toInt := by
    have := congrArg Int32.toInt ey
    rw [nI_toInt (by omega)] at this
    exact this.symm
  have hN : h.1 = 549 := iI.1
  obtain ⟨l1, l2, l3, l4, l5, -⟩ := hL
  obtain ⟨a, b, e, a1, b1, -, a2, b2, -⟩ := l1 y.toNatClampNeg ly
  have bi := l2 p.toNatClampNeg lp
  obtain ⟨fa, ha⟩ := w_ints iI (k := 88 + 7 * k + 1) (by omega) (w_rg_co (j := 1) hk (by decide)) (show w_S (58 + 1) = (1, 0, 41, [], [(41, -2147483648, 2147483647)]) from rfl)
  obtain ⟨fb, hb⟩ := w_ints iI (k := 88 + 7 * k + 2) (by omega) (w_rg_co (j := 2) hk (by decide)) (show w_S (58 + 2) = (1, 0, 41, [], [(41, -2147483648, 2147483647)]) from rfl)
  obtain ⟨fc, hc4⟩ := w_ints iI (k := 88 + 7 * k + 4) (by omega) (w_rg_co (j := 4) hk (by decide)) (show w_S (58 + 4) = (1, 0, 14, [], [(14, -2147483648, 2147483647)]) from rfl)
  rw [vw_co hk (by decide), rd_ints ha (by omega)] at a1
  rw [vw_co hk (by decide), rd_ints hb (by omega)] at b1
  rw [vw_co hk (by decide), rd_ints hc4 (by omega)] at bi
  have a1 := int_inj a1
  have b1 := int_inj b1
  have bi := int_inj bi
  have rf : ∀ j, j < 6 → rd h (88 + 7 * k) (1 + j) = some (.ref (88 + 7 * k + 1 + j)) := fun j hj => by
    have := (qS k hk).2 j hj
    rwa [vw_co0 hk] at this
  have gd : ¬ ¬ ((0 ≤ p.toInt ∧ p.toInt ≤ 13) ∧ 0 ≤ w.toInt ∧ w.toInt ≤ 2) := fun q => q ⟨hp, hw⟩
  have gd2 : ¬ ¬ (isCo m c ∧ 0 ≤ y.toInt ∧ y.toInt ≤ 40) := fun q => q ⟨hc, hy⟩
  unfold lcode
  rw [if_neg gd, if_neg gd2]
  refine XGo.go 2 rfl ?_
  by_cases w0 : w = 0
  · rw [if_pos w0]
    refine XGo.go 1 rfl ?_
    refine XGo.ifp w0 ?_
    refine XGo.go 1 rfl ?_
    refine XGo.getr rfl iI (by omega) (by omega) (w_rg_co0 hk) k58s (by decide) (rf 0 (by decide)) ?_
    refine XGo.go 1 rfl ?_
    refine XGo.call _ rfl xm_X6_at rfl rfl [.ref (88 + 7 * k + 1), .int y] [] rfl rfl (fun z => absurd rfl z) (Nat.le_of_ble_eq_true rfl) (at_in d ha (by omega) (by decide) hy.1 (by omega)) ?_
    refine XGo.go 4 rfl ?_
    show XGo _ _ (_, _, [.int ((fa y.toNatClampNeg >>> (p &&& 31)) &&& Int32.ofInt 1)], _) _ _
    rw [bit_at ep (by omega), a1]
    rw [show (if lvB a p.toNatClampNeg then (1 : Int32) else 0) = if ((lvOf g n m c).1 p.toNatClampNeg).toInt ≤ y.toInt ∧ y.toInt < ((lvOf g n m c).2.1 p.toNatClampNeg).toInt then 1 else 0 from ite_congr (propext (by rw [← ty]; exact a2 _ lp)) (fun _ => rfl) (fun _ => rfl)]
    exact XGo.iret _ rfl rfl .int rfl rfl
  · rw [if_neg w0]
    refine XGo.go 1 rfl ?_
    refine XGo.ifn w0 ?_
    refine XGo.go 3 rfl ?_
    by_cases w2 : w = Int32.ofInt 2
    · rw [if_pos w2, if_pos w2]
      refine XGo.go 1 rfl ?_
      refine XGo.getr rfl iI (by omega) (by omega) (w_rg_co0 hk) k58s (by decide) (rf 1 (by decide)) ?_
      refine XGo.go 1 rfl ?_
      refine XGo.call _ rfl xm_X6_at rfl rfl [.ref (88 + 7 * k + 2), .int y] [] rfl rfl (fun z => absurd rfl z) (Nat.le_of_ble_eq_true rfl) (at_in d hb (by omega) (by decide) hy.1 (by omega)) ?_
      refine XGo.go 4 rfl ?_
      show XGo _ _ (_, _, [.int ((fb y.toNatClampNeg >>> (p &&& 31)) &&& Int32.ofInt 1)], _) _ _
      rw [bit_at ep (by omega), b1]
      rw [show (if lvB b p.toNatClampNeg then (1 : Int32) else 0) = if ((lvOf g n m c).2.2.1 p.toNatClampNeg).toInt ≤ y.toInt then 1 else 0 from ite_congr (propext (by rw [← ty]; exact b2 _ lp)) (fun _ => rfl) (fun _ => rfl)]
      exact XGo.iret _ rfl rfl .int rfl rfl
    · rw [if_neg w2, if_neg w2]
      refine XGo.go 1 rfl ?_
      refine XGo.getr rfl iI (by omega) (by omega) (w_rg_co0 hk) k58s (by decide) (rf 3 (by decide)) ?_
      refine XGo.go 1 rfl ?_
      refine XGo.call _ rfl xm_X6_at rfl rfl [.ref (88 + 7 * k + 4), .int p] [] rfl rfl (fun z => absurd rfl z) (Nat.le_of_ble_eq_true rfl) (at_in d hc4 (by omega) (by decide) hp.1 (by omega)) ?_
      refine XGo.go 4 rfl ?_
      show XGo _ _ (if fc p.toNatClampNeg ≤ y then 106 else 101, lfL p c y w (some (.ref (88 + 7 * k))) (some (.int (fc p.toNatClampNeg))), [], h) _ _
      have fin1 : ∀ z : Int32, fc p.toNatClampNeg ≤ y → y - fc p.toNatClampNeg = z → XGo (d + 1) xm_X6_life (if fc p.toNatClampNeg ≤ y then 106 else 101, lfL p c y w (some (.ref (88 + 7 * k))) (some (.int (fc p.toNatClampNeg))), [], h) (some (.int z)) h := fun z hz e => by
        refine XGo.ifp hz ?_
        subst e
        refine XGo.go 3 rfl ?_
        exact XGo.iret _ rfl rfl .int rfl rfl
      have fin2 : ¬ fc p.toNatClampNeg ≤ y → XGo (d + 1) xm_X6_life (if fc p.toNatClampNeg ≤ y then 106 else 101, lfL p c y w (some (.ref (88 + 7 * k))) (some (.int (fc p.toNatClampNeg))), [], h) (some (.int m5)) h := fun hz => by
        refine XGo.ifn hz ?_
        refine XGo.go 2 rfl ?_
        exact XGo.iret _ rfl rfl .int rfl rfl
      by_cases pn : p.toNatClampNeg < n
      · have e1 : (lvOf g n m c).1 p.toNatClampNeg = Int32.ofInt 0 := by rw [lvOf_b8 (by omega), if_pos pn]
        rw [if_pos pn] at bi
        rw [e1, if_pos (show (Int32.ofInt 0).toInt ≤ y.toInt from hy.1), if_pos (show p.toNatClampNeg < 8 by omega)]
        exact fin1 _ (by rw [bi]; exact neg_le (hag _ pn) hy.1) (by rw [bi, sub_neg'])
      · rw [if_neg pn] at bi
        by_cases e9 : (lvOf g n m c).1 p.toNatClampNeg = i99
        · rw [if_pos e9] at bi
          rw [e9, if_neg (show ¬ i99.toInt ≤ y.toInt by rw [i99_int]; omega)]
          exact fin2 (fun q => by
            rw [bi] at q
            have := Int32.le_iff_toInt_le.mp q
            rw [c1000_int] at this
            omega)
        · rw [if_neg e9] at bi
          have p8 : ¬ p.toNatClampNeg < 8 := fun q => e9 (by rw [lvOf_b8 q, if_neg pn])
          rw [if_neg p8]
          by_cases hle : ((lvOf g n m c).1 p.toNatClampNeg).toInt ≤ y.toInt
          · rw [if_pos hle]
            exact fin1 _ (by rw [bi]; exact Int32.le_iff_toInt_le.mpr hle) (by rw [bi])
          · rw [if_neg hle]
            exact fin2 (fun q => by
              rw [bi] at q
              exact hle (Int32.le_iff_toInt_le.mp q))
set_option maxRecDepth 100000 in
/-- life of the class -/
theorem k_life6 {h : XH} (hI : AInv w_W h) (hP : PInv w_W w_P h []) {n m : Nat} {g ag : Nat → Int32} (hW : WFv (vw w_W h) g ag n m) (hag : ∀ j, j < n → 0 ≤ (ag j).toInt ∧ (ag j).toInt ≤ 90) (p c y w : Int32) : ∃ h1 : XH, XCall xM 11 64 [.ref 13, .int p, .int c, .int y, .int w] h (some (.int (lcode n m (lvOf g n m c) ag p c y w))) h1 ∧ AInv w_W h1 ∧ PInv w_W w_P h1 [] ∧ AFr w_W ws32 h h1 := by
  obtain ⟨⟨hn, hm⟩, w0, w3, -⟩ := id hW
  rw [vw_14 (Or.inr rfl)] at w3
  obtain ⟨fs, h13, -, -, -⟩ := w_lg hI
  have hN : h.1 = 549 := hI.1
  by_cases b1 : (0 ≤ p.toInt ∧ p.toInt ≤ 13) ∧ 0 ≤ w.toInt ∧ w.toInt ≤ 2
  · by_cases b2 : isCo m c ∧ 0 ≤ y.toInt ∧ y.toInt ≤ 40
    · obtain ⟨k, h1, ek, hk, cC, iC, pC, fC, nC, -⟩ := courseOf_ok hI hP c
      have hc64 : c.toInt ≤ 63 := by
        have := shm_le ⟨m, by omega⟩
        have := b2.1.2
        dsimp only at *
        omega
      obtain ⟨ec, lc⟩ := i32_nI b2.1.1 hc64
      have hkc : nI k = c := by
        have e := (i32_nI (and63 c).1 (and63 c).2).1
        rw [← ek] at e
        rw [← e]
        exact and63_id b2.1.1 hc64
      have hW1 : WFv (vw w_W h1) g ag n m := hW.congr fun z s z1 z2 => by
        unfold vw
        split
        · rename_i hz
          refine ((fC z s hz.1 fun u hu hc => ?_)).symm
          have e : w_W.1 z = z := w_rg_1419 z1 z2
          rw [e] at hc
          simp only [ws32, List.mem_cons, List.not_mem_nil, or_false] at hu
          rcases hu with rfl | rfl | rfl | rfl | rfl | rfl | rfl | rfl <;> (have := hc.1; dsimp only at this; omega)
        · rfl
      have hLK : LKv (vw w_W h1) n m g ag (lvOf g n m c) (88 + 7 * k) := by
        have q := (pC.2 rfl).2.2 n m g ag hW1 k hk
        rw [vw_co0 hk, hkc] at q
        exact q.resolve_left nC
      refine ⟨h1, XCall.of (M := xm_X6_life) rfl (Nat.le_of_ble_eq_true rfl) ?_, iC, pC, fC⟩
      refine life6_a (d := 9) (fun q => absurd b1 q) fun _ => ?_
      refine life6_b (d := 8) hI hm w3 (fun q => absurd b2 q) fun _ => ?_
      refine XGo.go 2 rfl ?_
      refine XGo.call _ rfl xm_X6_courseOf rfl rfl [.ref 13, .int c] [] rfl rfl (fun _ => ⟨13, fs, rfl, h13, by decide, by omega⟩) (Nat.le_of_ble_eq_true rfl) (XCall.up (by decide) cC) ?_
      exact life6_c (d := 9) iC (pC.2 rfl).1 hk hn hLK hag b1.1 b1.2 b2.1 b2.2
    · refine ⟨h, XCall.of (M := xm_X6_life) rfl (Nat.le_of_ble_eq_true rfl) ?_, hI, hP, AFr.refl _ _ _⟩
      refine life6_a (d := 9) (fun q => absurd b1 q) fun _ => ?_
      refine life6_b (d := 8) hI hm w3 (fun _ => ⟨?_, rfl⟩) fun q => absurd q b2
      unfold lcode
      rw [if_neg (fun q => q b1), if_pos b2]
  · refine ⟨h, XCall.of (M := xm_X6_life) rfl (Nat.le_of_ble_eq_true rfl) ?_, hI, hP, AFr.refl _ _ _⟩
    refine life6_a (d := 9) (fun _ => ⟨?_, rfl⟩) fun q => absurd q b1
    unfold lcode
    rw [if_pos b1]
