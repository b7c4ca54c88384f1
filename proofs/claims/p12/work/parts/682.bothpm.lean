/-! person and maybe on both sides: refused, or written alike -/
def pw_b : AWr := [(14, 0, 0), (15, 0, 7), (16, 0, 7), (58, 0, 0), (66, 0, 0), (66, 90, 97), (66, 100, 107)]
def mw_b : AWr := [(14, 3, 3), (17, 0, 5), (18, 0, 5), (19, 0, 5), (58, 0, 0), (66, 1, 1), (66, 110, 115), (66, 116, 121), (66, 122, 127)]
theorem pcode_a {n : Nat} {f : Nat → Int32} {a p : Int32} (h : pcode n f a p = 0) : 0 ≤ a.toInt ∧ a.toInt ≤ 90 := by
  unfold pcode at h
  split at h
  · exact absurd h (by decide)
  · split at h
    · exact absurd h (by decide)
    · rename_i hy
      have h1 : ¬ a < 0 := fun q => hy (Or.inl q)
      have h2 : a ≤ (Int8.ofInt 90).toInt32 := Classical.byContradiction fun q => hy (Or.inr q)
      have e1 := Int32.le_iff_toInt_le.mp (Int32.not_lt.mp h1)
      have e2 := Int32.le_iff_toInt_le.mp h2
      have z1 : (0 : Int32).toInt = 0 := by decide
      have z2 : (Int8.ofInt 90).toInt32.toInt = 90 := by decide
      omega
theorem both_person (a p : Int32) {h : XH} (hI : both0 h) {n : Nat} (hn : n ≤ 8) (r1 : rd h 14 0 = some (.int (nI n))) (r2 : rd h 537 0 = some (.int (nI n))) (r3 : ∀ i, i < n → rd h 15 i = rd h 537 (90 + i)) : ∃ (v : Int32) (h1 h2 : XH), XCall xM 11 62 [.ref 13, .int a, .int p] h (some (.int v)) h1 ∧ AInv w_W h1 ∧ h1.2.2 1 = h.2.2 1 ∧ XCall xM 11 113 [.ref 536, .int a, .int p] h1 (some (.int v)) h2 ∧ h2.2.2 1 = h.2.2 1 ∧ (h2 = h ∨ both0 h2 ∧ n < 8 ∧ AFr w_W pw_b h h2 ∧ rd h2 14 0 = some (.int (nI (n + 1))) ∧ rd h2 537 0 = some (.int (nI (n + 1))) ∧ (∀ i, i < 8 → rd h2 15 i = if i = n then some (.int a) else rd h 15 i) ∧ (∀ i, i < 8 → rd h2 16 i = if i = n then some (.int p) else rd h 16 i) ∧ (∀ i, i < 8 → rd h2 537 (90 + i) = if i = n then some (.int a) else rd h 537 (90 + i)) ∧ ∀ i, i < 8 → rd h2 537 (100 + i) = if i = n then some (.int p) else rd h 537 (100 + i)) := by
  obtain ⟨i1, i2, i3, x, r5, r6⟩ := id hI
  obtain ⟨fs, h13, hs0, -, -⟩ := w_lg i1
  obtain ⟨fw, h14, hw1, -, -⟩ := w_wo i1
  obtain ⟨f, h15⟩ := w_ints i1 (k := 15) (by decide) w_rg_15 (show w_S 15 = (1, 0, 8, [], w_s15.2.2.2.2) from rfl)
  obtain ⟨ms, m1, m2, -, -⟩ := w_mod i1
  obtain ⟨g, m3⟩ := w_row i1 (Or.inl rfl)
  have hw0 : fw[0]? = some (.int (nI n)) := (rd_fld h14).symm.trans r1
  have g0 : g 0 = nI n := by
    rw [rd_row m3 (by decide)] at r2
    exact Value.int.inj (Option.some.inj r2)
  have hfg : ∀ i, i < n → f i = g (90 + i) := fun i hi => by
    have e := r3 i hi
    rw [rd_ints h15 (by omega), rd_row m3 (by omega)] at e
    exact Value.int.inj (Option.some.inj e)
  have ep : pcode n f a p = pcode n (fun i => g (90 + i)) a p := pcode_eq hn hfg a p
  by_cases hz : pcode n f a p = 0
  · have hn8 := pcode_lt hz
    obtain ⟨h1, c1, j1, j2, jF, j0, ja, jb⟩ := cgood forget_ok i1 i2 hn8 r1 a p (pcode_a hz)
    have c1 : XCall xM 9 62 [.ref 13, .int a, .int p] h (some (.int (nI n))) h1 := XCall.of (M := xm_X6_person) rfl (Nat.le_of_ble_eq_true rfl) (cperson i1.1 h13 hs0 h14 hw0 hw1 h15 hn a p (fun x hx e => absurd (e.symm.trans hz) hx) (fun _ => c1))
    have q3 : ∀ b, rd h1 537 b = rd h 537 b := fun b => rdF (b := b) w_rg_537 (by decide) jF (by unfold ahit; rfl)
    obtain ⟨h2, c2, k1, k2, kF, G, G1, e1, e2, e3⟩ := mgood j1 j2 hn8 ((q3 0).trans r2) a p
    have hG : ∀ b, b < 490 → G b = g b := fun b hb => by
      have e := q3 b
      rw [rd_row e1 hb, rd_row m3 hb] at e
      exact Value.int.inj (Option.some.inj e)
    obtain ⟨ms1, m4, m5, -, -⟩ := w_mod j1
    have ep2 : pcode n (fun i => G (90 + i)) a p = 0 := (pcode_eq hn (fun i hi => (hG (90 + i) (by omega)).trans (hfg i hi).symm) a p).trans hz
    have c2 : XCall xM 9 113 [.ref 536, .int a, .int p] h1 (some (.int (nI n))) h2 := XCall.of (M := xm_X7_person) rfl (Nat.le_of_ble_eq_true rfl) (mperson j1.1 m4 m5 e1 ((hG 0 (by decide)).trans g0) hn a p (fun x hx e => absurd (e.symm.trans ep2) hx) (fun _ => c2))
    have x1 := XCall.ext _ _ _ _ _ _ c1 (by rw [i1.1]; decide) 1 (by decide)
    have x2 := XCall.ext _ _ _ _ _ _ c2 (by rw [j1.1]; decide) 1 (by decide)
    have s1 : ∀ w ∈ [(14, (0 : Int), (0 : Int)), (15, 0, 7), (16, 0, 7), (58, 0, 0)], ¬ w.1 = 67 := by decide
    have s2 : ∀ w ∈ [(66, (0 : Int), (0 : Int)), (66, 90, 97), (66, 100, 107)], ¬ w.1 = 67 := by decide
    refine ⟨nI n, h1, h2, XCall.up (by decide) c1, j1, x1, XCall.up (by decide) c2, x2.trans x1, Or.inr ⟨⟨k1, k2, PInv.o67 kF s2 (PInv.o67 jF s1 i3), x, ?_, ?_⟩, hn8, (awin_ok jF (by decide +kernel)).trans (awin_ok kF (by decide +kernel)), ?_, ?_, fun i hi => ?_, fun i hi => ?_, fun i hi => ?_, fun i hi => ?_⟩⟩
    · exact ((rdF (b := 2) w_rg_13 (by decide) kF (by decide)).trans (rdF (b := 2) w_rg_13 (by decide) jF (by decide))).trans r5
    · exact ((rdF (b := 3) w_rg_536 (by decide) kF (by decide)).trans (rdF (b := 3) w_rg_536 (by decide) jF (by decide))).trans r6
    · exact (rdF (b := 0) w_rg_14 (by decide) kF (by decide)).trans j0
    · rw [rd_row e2 (by decide), e3, upd_at]
    · exact (rdF (b := i) w_rg_15 (by decide) kF (by unfold ahit; rfl)).trans (ja i hi)
    · exact (rdF (b := i) w_rg_16 (by decide) kF (by unfold ahit; rfl)).trans (jb i hi)
    · rw [rd_row e2 (by omega), e3, upd_ne (by omega), upd_ne (by omega)]
      by_cases hin : i = n
      · rw [if_pos hin, hin, upd_at]
      · rw [if_neg hin, upd_ne (by omega), hG _ (by omega), rd_row m3 (by omega)]
    · rw [rd_row e2 (by omega), e3, upd_ne (by omega)]
      by_cases hin : i = n
      · rw [if_pos hin, hin, upd_at]
      · rw [if_neg hin, upd_ne (by omega), upd_ne (by omega), hG _ (by omega), rd_row m3 (by omega)]
  · have c1 : XCall xM 9 62 [.ref 13, .int a, .int p] h (some (.int (pcode n f a p))) h := XCall.of (M := xm_X6_person) rfl (Nat.le_of_ble_eq_true rfl) (cperson i1.1 h13 hs0 h14 hw0 hw1 h15 hn a p (fun x hx e => ⟨by rw [e], rfl⟩) (fun e => absurd e hz))
    have c2 : XCall xM 9 113 [.ref 536, .int a, .int p] h (some (.int (pcode n f a p))) h := XCall.of (M := xm_X7_person) rfl (Nat.le_of_ble_eq_true rfl) (mperson i1.1 m1 m2 m3 g0 hn a p (fun x hx e => ⟨by rw [ep, e], rfl⟩) (fun e => absurd (ep.trans e) hz))
    exact ⟨_, h, h, XCall.up (by decide) c1, i1, rfl, XCall.up (by decide) c2, rfl, Or.inl rfl⟩
theorem isCh_eq {m : Nat} {f g : Nat → Int32} (hm : m ≤ 6) (hfg : ∀ i, i < m → f i = g i) (w : Int32) : isCh m f w ↔ isCh m g w := by
  constructor
  · rintro ⟨h1, h2, h3⟩
    obtain ⟨-, c2, c3, c4⟩ := ch_at hm h1 h2
    exact ⟨h1, h2, by rw [← hfg _ (by omega)]; exact h3⟩
  · rintro ⟨h1, h2, h3⟩
    obtain ⟨-, c2, c3, c4⟩ := ch_at hm h1 h2
    exact ⟨h1, h2, by rw [hfg _ (by omega)]; exact h3⟩
theorem mcode_eq {n m : Nat} {f g : Nat → Int32} (hm : m ≤ 6) (hfg : ∀ i, i < m → f i = g i) (a w y : Int32) : mcode n m f a w y = mcode n m g a w y := by
  have e : wBad n m f a w ↔ wBad n m g a w := by
    unfold wBad
    rw [isCh_eq hm hfg]
  unfold mcode
  by_cases h1 : a < 0 ∨ ¬ a ≤ Int32.ofInt 3
  · rw [if_pos h1, if_pos h1]
  · rw [if_neg h1, if_neg h1]
    by_cases h2 : wBad n m f a w
    · rw [if_pos h2, if_pos (e.mp h2)]
    · rw [if_neg h2, if_neg (fun q => h2 (e.mpr q))]
/-- who may stand: a number from 0 to 13, and to 3 with the kind 3 -/
theorem who_in {n m : Nat} {f : Nat → Int32} {a w : Int32} (hn : n ≤ 8) (hm : m < 6) (h : ¬ wBad n m f a w) : (0 ≤ w.toInt ∧ w.toInt ≤ 13) ∧ (a.toInt = 3 → w.toInt ≤ 3) := by
  have z0 : (0 : Int32).toInt = 0 := by decide
  have z3 : (Int32.ofInt 3).toInt = 3 := by decide
  have z4 : (Int32.ofInt 4).toInt = 4 := by decide
  by_cases ha : a = Int32.ofInt 3
  · have h1 : ¬ w < 0 := fun q => h (Or.inl ⟨ha, Or.inl q⟩)
    have h2 : w < Int32.ofInt 4 := Classical.byContradiction fun q => h (Or.inl ⟨ha, Or.inr q⟩)
    have e1 := Int32.le_iff_toInt_le.mp (Int32.not_lt.mp h1)
    have e2 := Int32.lt_iff_toInt_lt.mp h2
    omega
  · have ha3 : ¬ a.toInt = 3 := fun q => ha (Int32.toInt_inj.mp (q.trans z3.symm))
    refine ⟨?_, fun q => absurd q ha3⟩
    by_cases hp : 0 ≤ w ∧ w < nI n
    · have e1 := Int32.le_iff_toInt_le.mp hp.1
      have e2 := Int32.lt_iff_toInt_lt.mp hp.2
      rw [nI_toInt (by omega)] at e2
      omega
    · have hc : isCh m f w := Classical.byContradiction fun q => h (Or.inr ⟨ha, hp, q⟩)
      obtain ⟨-, c2, c3, c4⟩ := ch_at (by omega) hc.1 hc.2.1
      omega
theorem mcode_y {n m : Nat} {f : Nat → Int32} {a w y : Int32} (h : mcode n m f a w y = 0) : 1 ≤ y.toInt ∧ y.toInt ≤ 40 := by
  unfold mcode at h
  split at h
  · exact absurd h (by decide)
  · split at h
    · exact absurd h (by decide)
    · split at h
      · exact absurd h (by decide)
      · rename_i hy
        have h1 : ¬ y < Int32.ofInt 1 := fun q => hy (Or.inl q)
        have h2 : y ≤ (Int8.ofInt 40).toInt32 := Classical.byContradiction fun q => hy (Or.inr q)
        have e1 := Int32.le_iff_toInt_le.mp (Int32.not_lt.mp h1)
        have e2 := Int32.le_iff_toInt_le.mp h2
        have z1 : (Int32.ofInt 1).toInt = 1 := by decide
        have z2 : (Int8.ofInt 40).toInt32.toInt = 40 := by decide
        omega
theorem both_maybe (a w y : Int32) {h : XH} (hI : both0 h) {n m : Nat} (hn : n ≤ 8) (hm : m ≤ 6) (r1 : rd h 14 0 = some (.int (nI n))) (r2 : rd h 537 0 = some (.int (nI n))) (t1 : rd h 14 3 = some (.int (nI m))) (t2 : rd h 537 1 = some (.int (nI m))) (t3 : ∀ i, i < m → rd h 17 i = rd h 537 (110 + i)) : ∃ (v : Int32) (h1 h2 : XH), XCall xM 11 63 [.ref 13, .int a, .int w, .int y] h (some (.int v)) h1 ∧ AInv w_W h1 ∧ h1.2.2 1 = h.2.2 1 ∧ XCall xM 11 114 [.ref 536, .int a, .int w, .int y] h1 (some (.int v)) h2 ∧ h2.2.2 1 = h.2.2 1 ∧ (h2 = h ∨ both0 h2 ∧ m < 6 ∧ AFr w_W mw_b h h2 ∧ rd h2 14 3 = some (.int (nI (m + 1))) ∧ rd h2 537 1 = some (.int (nI (m + 1))) ∧ (∀ i, i < 6 → rd h2 17 i = if i = m then some (.int a) else rd h 17 i) ∧ (∀ i, i < 6 → rd h2 18 i = if i = m then some (.int w) else rd h 18 i) ∧ (∀ i, i < 6 → rd h2 19 i = if i = m then some (.int y) else rd h 19 i) ∧ (∀ i, i < 6 → rd h2 537 (110 + i) = if i = m then some (.int a) else rd h 537 (110 + i)) ∧ (∀ i, i < 6 → rd h2 537 (116 + i) = if i = m then some (.int w) else rd h 537 (116 + i)) ∧ ∀ i, i < 6 → rd h2 537 (122 + i) = if i = m then some (.int y) else rd h 537 (122 + i)) := by
  obtain ⟨i1, i2, i3, x, r5, r6⟩ := id hI
  obtain ⟨fs, h13, hs0, -, -⟩ := w_lg i1
  obtain ⟨fw, h14, hw1, -, -⟩ := w_wo i1
  obtain ⟨f, h17⟩ := w_ints i1 (k := 17) (by decide) w_rg_17 (show w_S 17 = (1, 0, 6, [], w_s17.2.2.2.2) from rfl)
  obtain ⟨ms, m1, m2, -, -⟩ := w_mod i1
  obtain ⟨g, m3⟩ := w_row i1 (Or.inl rfl)
  have hw0 : fw[0]? = some (.int (nI n)) := (rd_fld h14).symm.trans r1
  have hw3 : fw[3]? = some (.int (nI m)) := (rd_fld h14).symm.trans t1
  have hw4 : fw[4]? = some (.ref 17) := (rd_fld h14).symm.trans (r14_4 i1)
  have g0 : g 0 = nI n := by
    rw [rd_row m3 (by decide)] at r2
    exact Value.int.inj (Option.some.inj r2)
  have g1 : g 1 = nI m := by
    rw [rd_row m3 (by decide)] at t2
    exact Value.int.inj (Option.some.inj t2)
  have hfg : ∀ i, i < m → f i = g (110 + i) := fun i hi => by
    have e := t3 i hi
    rw [rd_ints h17 (by omega), rd_row m3 (by omega)] at e
    exact Value.int.inj (Option.some.inj e)
  have ep : mcode n m f a w y = mcode n m (fun i => g (110 + i)) a w y := mcode_eq hm hfg a w y
  by_cases hz : mcode n m f a w y = 0
  · obtain ⟨-, hb, hm6⟩ := mcode_ok hz
    obtain ⟨hw13, hk3⟩ := who_in hn hm6 hb
    obtain ⟨h1, c1, j1, j2, jF, j0, ja, jb, jc⟩ := cmgood forget_ok i1 i2 hm6 t1 a w y ⟨hw13, fun e => hk3 (by rw [e]; rfl), mcode_y hz⟩
    have c1 : XCall xM 9 63 [.ref 13, .int a, .int w, .int y] h (some (.int (nI m))) h1 := XCall.of (M := xm_X6_maybe) rfl (Nat.le_of_ble_eq_true rfl) (cmaybe i1.1 h13 hs0 h14 hw0 hw3 hw4 h17 hm a w y (fun x hx e => absurd (e.symm.trans hz) hx) (fun _ => c1))
    have q3 : ∀ b, rd h1 537 b = rd h 537 b := fun b => rdF (b := b) w_rg_537 (by decide) jF (by unfold ahit mw_c; rfl)
    obtain ⟨ms1, m4, m5, -, -⟩ := w_mod j1
    obtain ⟨G, e1⟩ := w_row j1 (Or.inl rfl)
    have hG : ∀ b, b < 490 → G b = g b := fun b hb => by
      have e := q3 b
      rw [rd_row e1 hb, rd_row m3 hb] at e
      exact Value.int.inj (Option.some.inj e)
    obtain ⟨h2, c2, k1, k2, kF, e2⟩ := mmgood j1 j2 hm6 m4 m5 e1 ((hG 1 (by decide)).trans g1) a w y hw13 hk3
    have ep2 : mcode n m (fun i => G (110 + i)) a w y = 0 := (mcode_eq hm (fun i hi => (hG (110 + i) (by omega)).trans (hfg i hi).symm) a w y).trans hz
    have c2 : XCall xM 9 114 [.ref 536, .int a, .int w, .int y] h1 (some (.int (nI m))) h2 := XCall.of (M := xm_X7_maybe) rfl (Nat.le_of_ble_eq_true rfl) (mmaybe j1.1 m4 m5 e1 ((hG 0 (by decide)).trans g0) hn ((hG 1 (by decide)).trans g1) hm a w y (fun x hx e => absurd (e.symm.trans ep2) hx) (fun _ => c2))
    have x1 := XCall.ext _ _ _ _ _ _ c1 (by rw [i1.1]; decide) 1 (by decide)
    have x2 := XCall.ext _ _ _ _ _ _ c2 (by rw [j1.1]; decide) 1 (by decide)
    have s1 : ∀ w ∈ mw_c, ¬ w.1 = 67 := by decide
    have s2 : ∀ w ∈ mw_m, ¬ w.1 = 67 := by decide
    refine ⟨nI m, h1, h2, XCall.up (by decide) c1, j1, x1, XCall.up (by decide) c2, x2.trans x1, Or.inr ⟨⟨k1, k2, PInv.o67 kF s2 (PInv.o67 jF s1 i3), x, ?_, ?_⟩, hm6, (awin_ok jF (by decide +kernel)).trans (awin_ok kF (by decide +kernel)), ?_, ?_, fun i hi => ?_, fun i hi => ?_, fun i hi => ?_, fun i hi => ?_, fun i hi => ?_, fun i hi => ?_⟩⟩
    · exact ((rdF (b := 2) w_rg_13 (by decide) kF (by decide)).trans (rdF (b := 2) w_rg_13 (by decide) jF (by decide))).trans r5
    · exact ((rdF (b := 3) w_rg_536 (by decide) kF (by decide)).trans (rdF (b := 3) w_rg_536 (by decide) jF (by decide))).trans r6
    · exact (rdF (b := 3) w_rg_14 (by decide) kF (by decide)).trans j0
    · rw [rd_row e2 (by decide), upd_at]
    · exact (rdF (b := i) w_rg_17 (by decide) kF (by unfold ahit mw_m; rfl)).trans (ja i hi)
    · exact (rdF (b := i) w_rg_18 (by decide) kF (by unfold ahit mw_m; rfl)).trans (jb i hi)
    · exact (rdF (b := i) w_rg_19 (by decide) kF (by unfold ahit mw_m; rfl)).trans (jc i hi)
    · rw [rd_row e2 (by omega), upd_ne (n := 1) (by omega), upd_ne (n := 122 + m) (by omega), upd_ne (n := 116 + m) (by omega)]
      by_cases hin : i = m
      · rw [if_pos hin, hin, upd_at]
      · rw [if_neg hin, upd_ne (by omega), hG _ (by omega), rd_row m3 (by omega)]
    · rw [rd_row e2 (by omega), upd_ne (n := 1) (by omega), upd_ne (n := 122 + m) (by omega)]
      by_cases hin : i = m
      · rw [if_pos hin, hin, upd_at]
      · rw [if_neg hin, upd_ne (by omega), upd_ne (by omega), hG _ (by omega), rd_row m3 (by omega)]
    · rw [rd_row e2 (by omega), upd_ne (n := 1) (by omega)]
      by_cases hin : i = m
      · rw [if_pos hin, hin, upd_at]
      · rw [if_neg hin, upd_ne (by omega), upd_ne (by omega), upd_ne (by omega), hG _ (by omega), rd_row m3 (by omega)]
  · have c1 : XCall xM 9 63 [.ref 13, .int a, .int w, .int y] h (some (.int (mcode n m f a w y))) h := XCall.of (M := xm_X6_maybe) rfl (Nat.le_of_ble_eq_true rfl) (cmaybe i1.1 h13 hs0 h14 hw0 hw3 hw4 h17 hm a w y (fun x hx e => ⟨by rw [e], rfl⟩) (fun e => absurd e hz))
    have c2 : XCall xM 9 114 [.ref 536, .int a, .int w, .int y] h (some (.int (mcode n m f a w y))) h := XCall.of (M := xm_X7_maybe) rfl (Nat.le_of_ble_eq_true rfl) (mmaybe i1.1 m1 m2 m3 g0 hn g1 hm a w y (fun x hx e => ⟨by rw [ep, e], rfl⟩) (fun e => absurd (ep.trans e) hz))
    exact ⟨_, h, h, XCall.up (by decide) c1, i1, rfl, XCall.up (by decide) c2, rfl, Or.inl rfl⟩
