/-! life, the model's answer; life on both sides -/
set_option maxRecDepth 100000 in
theorem life7_c {d : Nat} {h : XH} {fs : List Value} {f : Nat → Int32} (hK : LVk h fs f) {s L : LV} (hs : LVr h s) (he : LVe s L) {n m : Nat} {p c y w : Int32} (hp : 0 ≤ p.toInt ∧ p.toInt ≤ 13) (hw : 0 ≤ w.toInt ∧ w.toInt ≤ 2) (hc : isCo m c) (hy : 0 ≤ y.toInt ∧ y.toInt ≤ 40) : XGo (d + 1) xm_X7_life (48, mfL p c y w, [], h) (some (.int (lcode n m L (fun i => f (90 + i)) p c y w))) h := by
  obtain ⟨ep, lp⟩ := i32_nI hp.1 hp.2
  have lp : p.toNatClampNeg < 14 := by omega
  have hN := hK.1
  have h36 := hK.2.1
  obtain ⟨g4, g5, g6⟩ := lvfld hK
  have E1 := he.1 _ lp
  have E2 := he.2.1 _ lp
  have E3 := he.2.2.1 _ lp
  have gd : ¬ ¬ ((0 ≤ p.toInt ∧ p.toInt ≤ 13) ∧ 0 ≤ w.toInt ∧ w.toInt ≤ 2) := fun q => q ⟨hp, hw⟩
  have gd2 : ¬ ¬ (isCo m c ∧ 0 ≤ y.toInt ∧ y.toInt ≤ 40) := fun q => q ⟨hc, hy⟩
  unfold lcode
  rw [if_neg gd, if_neg gd2, ← E1, ← E2, ← E3]
  refine XGo.go 1 rfl ?_
  by_cases w0 : w = 0
  · rw [if_pos w0, w0]
    refine XGo.lsw 26 76 rfl (by decide) (by decide) rfl ?_
    refine XGo.go 3 rfl ?_
    refine XGo.call _ rfl xm_X7_isAlive rfl rfl [.ref 536, .int p, .int y] [] rfl rfl (fun _ => ⟨536, fs, rfl, h36, by decide, by omega⟩) (Nat.le_of_ble_eq_true rfl) (k_alive d hK hs hp.1 lp) ?_
    by_cases a : (s.1 p.toNatClampNeg).toInt ≤ y.toInt ∧ y.toInt < (s.2.1 p.toNatClampNeg).toInt
    · rw [if_pos a]
      refine XGo.go 1 rfl ?_
      refine XGo.ifn (by decide) ?_
      refine XGo.go 2 rfl ?_
      exact XGo.iret _ rfl rfl .int rfl rfl
    · rw [if_neg a]
      refine XGo.go 1 rfl ?_
      refine XGo.ifp rfl ?_
      refine XGo.go 1 rfl ?_
      exact XGo.iret _ rfl rfl .int rfl rfl
  · rw [if_neg w0]
    have w0' : ¬ w.toInt = 0 := fun q => w0 (eq0_iff.mpr q)
    by_cases w2 : w = Int32.ofInt 2
    · rw [if_pos w2, w2]
      refine XGo.lsw 63 113 rfl (by decide) (by decide) rfl ?_
      refine XGo.go 1 rfl ?_
      refine XGo.getf rfl ⟨g6, by decide⟩ ?_
      refine XGo.go 1 rfl ?_
      refine XGo.iald rfl (xia_i hs.2.2.1 (by omega) (ca_in hp.1 lp)) ?_
      refine XGo.go 2 rfl ?_
      by_cases a : y < s.2.2.1 p.toNatClampNeg
      · have := Int32.lt_iff_toInt_lt.mp a
        rw [if_neg (show ¬ (s.2.2.1 p.toNatClampNeg).toInt ≤ y.toInt by omega)]
        refine XGo.ifp a ?_
        refine XGo.go 1 rfl ?_
        exact XGo.iret _ rfl rfl .int rfl rfl
      · have a1 := Int32.le_iff_toInt_le.mp (Int32.not_lt.mp a)
        rw [if_pos a1]
        refine XGo.ifn a ?_
        refine XGo.go 2 rfl ?_
        exact XGo.iret _ rfl rfl .int rfl rfl
    · rw [if_neg w2]
      have w1 : w = Int32.ofInt 1 := by
        have q : ¬ w.toInt = 2 := fun q => w2 (Int32.toInt_inj.mp q)
        exact Int32.toInt_inj.mp (show w.toInt = 1 by omega)
      rw [w1]
      refine XGo.lsw 41 91 rfl (by decide) (by decide) rfl ?_
      refine XGo.go 1 rfl ?_
      refine XGo.getf rfl ⟨g4, by decide⟩ ?_
      refine XGo.go 1 rfl ?_
      refine XGo.iald rfl (xia_i hs.1 (by omega) (ca_in hp.1 lp)) ?_
      refine XGo.go 2 rfl ?_
      by_cases a : s.1 p.toNatClampNeg ≤ y
      · rw [if_pos (Int32.le_iff_toInt_le.mp a)]
        refine XGo.ifp a ?_
        refine XGo.go 3 rfl ?_
        refine XGo.call _ rfl xm_X7_ageOf rfl rfl [.ref 536, .int p, .int y] [] rfl rfl (fun _ => ⟨536, fs, rfl, h36, by decide, by omega⟩) (Nat.le_of_ble_eq_true rfl) (k_age d hK hs hp.1 lp ep) ?_
        exact XGo.iret _ rfl rfl .int rfl rfl
      · rw [if_neg (fun q => a (Int32.le_iff_toInt_le.mpr q))]
        refine XGo.ifn a ?_
        refine XGo.go 2 rfl ?_
        exact XGo.iret _ rfl rfl .int rfl rfl
/-- the four rows of lives are as they may be -/
theorem lv_inv {h h1 : XH} (hI : AInv w_W h) (o : LVo h h1) {s : LV} (hs : LVr h1 s) : AInv w_W h1 := by
  refine ⟨o.1.trans hI.1, o.2.1.trans hI.2.1, fun z hz => ?_⟩
  by_cases hb : 539 ≤ z ∧ z ≤ 542
  · obtain ⟨s1, s2, s3, s4⟩ := hs
    rw [w_Sg]
    have hz4 : z = 539 ∨ z = 540 ∨ z = 541 ∨ z = 542 := by omega
    rcases hz4 with rfl | rfl | rfl | rfl
    · rw [w_rg_539]; exact ints_inv s1
    · rw [w_rg_540]; exact ints_inv s2
    · rw [w_rg_541]; exact ints_inv s3
    · rw [w_rg_542]; exact ints_inv s4
  · obtain ⟨s1, s2⟩ := hI.2.2 z hz
    have e := o.2.2 z hb
    refine ⟨by rw [e]; exact s1, fun t a ha => ?_⟩
    rw [rd_same e]
    exact s2 t a ha
abbrev wsL : AWr := [(68, 0, 13), (69, 0, 13), (70, 0, 13), (71, 0, 3)]
theorem lv_fr {h h1 : XH} (o : LVo h h1) {s t : LV} (hs : LVr h s) (ht : LVr h1 t) : AFr w_W wsL h h1 := fun z b hz hb => by
  by_cases hq : 539 ≤ z ∧ z ≤ 542
  · obtain ⟨s1, s2, s3, s4⟩ := hs
    obtain ⟨t1, t2, t3, t4⟩ := ht
    have hz4 : z = 539 ∨ z = 540 ∨ z = 541 ∨ z = 542 := by omega
    rcases hz4 with rfl | rfl | rfl | rfl
    · have e : ¬ b < 14 := fun q => hb (68, 0, 13) (by decide) ⟨((w_W1 539).trans w_rg_539).symm, by show (0 : Int) ≤ b; omega, by show (b : Int) ≤ 13; omega⟩
      exact (rd_none t1 e).trans (rd_none s1 e).symm
    · have e : ¬ b < 14 := fun q => hb (69, 0, 13) (by decide) ⟨((w_W1 540).trans w_rg_540).symm, by show (0 : Int) ≤ b; omega, by show (b : Int) ≤ 13; omega⟩
      exact (rd_none t2 e).trans (rd_none s2 e).symm
    · have e : ¬ b < 14 := fun q => hb (70, 0, 13) (by decide) ⟨((w_W1 541).trans w_rg_541).symm, by show (0 : Int) ≤ b; omega, by show (b : Int) ≤ 13; omega⟩
      exact (rd_none t3 e).trans (rd_none s3 e).symm
    · have e : ¬ b < 4 := fun q => hb (71, 0, 3) (by decide) ⟨((w_W1 542).trans w_rg_542).symm, by show (0 : Int) ≤ b; omega, by show (b : Int) ≤ 3; omega⟩
      exact (rd_none t4 e).trans (rd_none s4 e).symm
  · exact rd_same (o.2.2 z hq) b
theorem lvr_of {h : XH} (hI : AInv w_W h) : ∃ s : LV, LVr h s := by
  obtain ⟨a, h1⟩ := w_ints hI (k := 539) (by decide) w_rg_539 (show w_S 68 = (1, 0, 14, [], w_s68.2.2.2.2) from rfl)
  obtain ⟨b, h2⟩ := w_ints hI (k := 540) (by decide) w_rg_540 (show w_S 69 = (1, 0, 14, [], w_s69.2.2.2.2) from rfl)
  obtain ⟨c, h3⟩ := w_ints hI (k := 541) (by decide) w_rg_541 (show w_S 70 = (1, 0, 14, [], w_s70.2.2.2.2) from rfl)
  obtain ⟨d, h4⟩ := w_ints hI (k := 542) (by decide) w_rg_542 (show w_S 71 = (1, 0, 4, [], w_s71.2.2.2.2) from rfl)
  exact ⟨(a, b, c, d), h1, h2, h3, h4⟩
set_option maxRecDepth 100000 in
/-- life of the model -/
theorem k_life7 {h : XH} (hI : AInv w_W h) (hP : PInv w_W w_P h []) {ms : List Value} {f : Nat → Int32} (hK : LVk h ms f) {n m : Nat} (hn : n ≤ 8) (hm : m ≤ 6) (hf0 : f 0 = nI n) (hf1 : f 1 = nI m) (hf : mbOK f m) (p c y w : Int32) : ∃ h1 : XH, XCall xM 11 119 [.ref 536, .int p, .int c, .int y, .int w] h (some (.int (lcode n m (lvOf f n m c) (fun i => f (90 + i)) p c y w))) h1 ∧ AInv w_W h1 ∧ PInv w_W w_P h1 [] ∧ AFr w_W wsL h h1 := by
  obtain ⟨s, hs⟩ := lvr_of hI
  have hN := hK.1
  have h36 := hK.2.1
  by_cases b1 : (0 ≤ p.toInt ∧ p.toInt ≤ 13) ∧ 0 ≤ w.toInt ∧ w.toInt ≤ 2
  · by_cases b2 : isCo m c ∧ 0 ≤ y.toInt ∧ y.toInt ≤ 40
    · obtain ⟨h1, s1, cL, o, r1, e1⟩ := k_lives 8 hK hs hf0 hn hf1 hm hf c
      have hF := lv_fr o hs r1
      refine ⟨h1, XCall.of (M := xm_X7_life) rfl (Nat.le_of_ble_eq_true rfl) ?_, lv_inv hI o r1, ⟨PPr.out hF (by decide) hP.1, hP.2.pl fun z hz => o.2.2 z (by omega)⟩, hF⟩
      refine life7_a (d := 9) (fun q => absurd b1 q) fun _ => ?_
      refine life7_b (d := 8) hK hm hf1 (fun q => absurd b2 q) fun _ => ?_
      refine XGo.go 2 rfl ?_
      refine XGo.call _ rfl xm_X7_lives rfl rfl [.ref 536, .int c] [] rfl rfl (fun _ => ⟨536, ms, rfl, h36, by decide, by omega⟩) (Nat.le_of_ble_eq_true rfl) cL ?_
      exact life7_c (d := 9) (o.keep hK) r1 e1 b1.1 b1.2 b2.1 b2.2
    · refine ⟨h, XCall.of (M := xm_X7_life) rfl (Nat.le_of_ble_eq_true rfl) ?_, hI, hP, AFr.refl _ _ _⟩
      refine life7_a (d := 9) (fun q => absurd b1 q) fun _ => ?_
      refine life7_b (d := 8) hK hm hf1 (fun _ => ⟨?_, rfl⟩) fun q => absurd q b2
      unfold lcode
      rw [if_neg (fun q => q b1), if_pos b2]
  · refine ⟨h, XCall.of (M := xm_X7_life) rfl (Nat.le_of_ble_eq_true rfl) ?_, hI, hP, AFr.refl _ _ _⟩
    refine life7_a (d := 9) (fun _ => ⟨?_, rfl⟩) fun q => absurd q b1
    unfold lcode
    rw [if_pos b1]
/-- the world and the row, as a course and its lives are told from -/
theorem wf_of {L : Nat} {xs : Nat → Int32} {h : XH} (hI : INVw L xs h) : ∃ (n m : Nat) (ms : List Value) (g : Nat → Int32), WFv (vw w_W h) g (fun i => g (90 + i)) n m ∧ LVk h ms g ∧ g 0 = nI n ∧ g 1 = nI m ∧ ∀ j, j < n → 0 ≤ (g (90 + j)).toInt ∧ (g (90 + j)).toInt ≤ 90 := by
  obtain ⟨i1, i2, -, ⟨⟨n, m, hn, hm, a0, a1, a2, a3, b1, b2, b3, b4, b5⟩, -⟩, -⟩ := hI
  obtain ⟨ms, m1, m2, -, -⟩ := w_mod i1
  obtain ⟨g, m3⟩ := w_row i1 (Or.inl rfl)
  obtain ⟨n', m', ⟨hn', hm'⟩, q0, q3, qa, q4⟩ := (i2.2 rfl).2.1
  rw [vw_14 (Or.inl rfl), a0] at q0
  rw [vw_14 (Or.inr rfl), a2] at q3
  have e1 := nI_inj (by omega) (by omega) (int_inj q0)
  have e2 := nI_inj (by omega) (by omega) (int_inj q3)
  subst e1
  subst e2
  rw [rd_row m3 (by decide)] at a1 a3
  have c1 : ∀ i, i < n → rd h 15 i = some (.int (g (90 + i))) := fun i hi => by rw [b1 i hi, rd_row m3 (by omega)]
  have c2 : ∀ i, i < n → rd h 16 i = some (.int (g (100 + i))) := fun i hi => by rw [b2 i hi, rd_row m3 (by omega)]
  have c3 : ∀ i, i < m → rd h 17 i = some (.int (g (110 + i))) := fun i hi => by rw [b3 i hi, rd_row m3 (by omega)]
  have c4 : ∀ i, i < m → rd h 18 i = some (.int (g (116 + i))) := fun i hi => by rw [b4 i hi, rd_row m3 (by omega)]
  have c5 : ∀ i, i < m → rd h 19 i = some (.int (g (122 + i))) := fun i hi => by rw [b5 i hi, rd_row m3 (by omega)]
  have q5 : ∀ k, k < m → ((0 ≤ (g (116 + k)).toInt ∧ (g (116 + k)).toInt ≤ 13) ∧ (g (110 + k) = Int32.ofInt 3 → (g (116 + k)).toInt ≤ 3)) ∧ 1 ≤ (g (122 + k)).toInt ∧ (g (122 + k)).toInt ≤ 40 := fun k hk => by
    obtain ⟨kd, w, y, k1, k2, k3, k4, k5, k6⟩ := q4 k hk
    rw [vw_wo (by decide) (by decide)] at k1 k2 k3
    rw [c3 k hk] at k1
    rw [c4 k hk] at k2
    rw [c5 k hk] at k3
    rw [int_inj k1, int_inj k2, int_inj k3]
    exact ⟨⟨k4, k5⟩, k6⟩
  refine ⟨n, m, ms, g, ⟨⟨hn, hm⟩, by rw [vw_14 (Or.inl rfl)]; exact a0, by rw [vw_14 (Or.inr rfl)]; exact a2, fun k hk => ⟨by rw [vw_wo (by decide) (by decide)]; exact c3 k hk, by rw [vw_wo (by decide) (by decide)]; exact c4 k hk, by rw [vw_wo (by decide) (by decide)]; exact c5 k hk⟩, fun j hj => ⟨by rw [vw_wo (by decide) (by decide)]; exact c1 j hj, by rw [vw_wo (by decide) (by decide)]; exact c2 j hj⟩, fun k hk => (q5 k hk).1, fun k hk => (q5 k hk).2⟩, ⟨i1.1, m1, m3, w_mo4 i1 m1⟩, int_inj a1, int_inj a3, fun j hj => ?_⟩
  obtain ⟨x, x1, x2⟩ := qa j hj
  rw [vw_wo (by decide) (by decide), c1 j hj] at x1
  rw [int_inj x1]
  exact x2
theorem LVk.fr {h h1 : XH} {ms : List Value} {g : Nat → Int32} (k : LVk h ms g) (hN : h1.1 = 549) (e1 : h1.2.2 536 = h.2.2 536) (e2 : h1.2.2 537 = h.2.2 537) : LVk h1 ms g := ⟨hN, e1.trans k.2.1, e2.trans k.2.2.1, k.2.2.2⟩
theorem lvC_f {f g : Nat → Int32} {k : Nat} (hk : k < 6) (h : ∀ b, b < 490 → g b = f b) (s : LV) : lvC g k s = lvC f k s := by
  unfold lvC
  rw [h (110 + k) (by omega), h (116 + k) (by omega), h (122 + k) (by omega)]
theorem lvM_f {f g : Nat → Int32} {set : Int32} {y : Nat} (h : ∀ b, b < 490 → g b = f b) : ∀ (k : Nat) (s : LV), k ≤ 6 → lvM g set y k s = lvM f set y k s
  | 0, _, _ => rfl
  | k + 1, s, hk => by
    unfold lvM
    rw [lvM_f h k s (by omega), lvC_f (by omega) h, h (122 + k) (by omega)]
theorem lvY_f {f g : Nat → Int32} {set : Int32} {m : Nat} (hm : m ≤ 6) (h : ∀ b, b < 490 → g b = f b) : ∀ (y : Nat) (s : LV), lvY g set m y s = lvY f set m y s
  | 0, _ => rfl
  | y + 1, s => by
    unfold lvY
    rw [lvY_f hm h y s, lvM_f h m _ hm]
theorem lvOf_f {f g : Nat → Int32} {n m : Nat} {set : Int32} (hm : m ≤ 6) (h : ∀ b, b < 490 → g b = f b) : lvOf g n m set = lvOf f n m set := lvY_f hm h 40 _
theorem lcode_f {n m : Nat} {L : LV} {ag bg : Nat → Int32} {p c y w : Int32} (h : ∀ j, j < 8 → bg j = ag j) : lcode n m L bg p c y w = lcode n m L ag p c y w := by
  unfold lcode
  by_cases hp : p.toNatClampNeg < 8
  · rw [h _ hp]
  · simp only [if_neg hp]
/-- LIFE ON BOTH SIDES -/
theorem V_life (p c y w : Int32) {L : Nat} {xs : Nat → Int32} {h : XH} (hI : INVw L xs h) : ∃ (v : Int32) (h1 h2 : XH), XCall xM 11 64 [.ref 13, .int p, .int c, .int y, .int w] h (some (.int v)) h1 ∧ AInv w_W h1 ∧ h1.2.2 1 = h.2.2 1 ∧ XCall xM 11 119 [.ref 536, .int p, .int c, .int y, .int w] h1 (some (.int v)) h2 ∧ INVw L xs h2 := by
  obtain ⟨n, m, ms, g, hW, hK, g0, g1, hag⟩ := wf_of hI
  obtain ⟨h1, c1, j1, j2, jF⟩ := k_life6 hI.1 hI.2.1 hW hag p c y w
  have x1 := XCall.ext _ _ _ _ _ _ c1 (by rw [hI.1.1]; decide) 1 (by decide)
  have hI1 := invw_fr hI j1 j2 jF (by decide +kernel) x1
  obtain ⟨n', m', ms', g', hW', hK', g0', g1', -⟩ := wf_of hI1
  obtain ⟨⟨hn', hm'⟩, -, -, -, -, hf', -⟩ := hW'
  obtain ⟨⟨hn, hm⟩, -, -, -, -, hf, -⟩ := hW
  obtain ⟨h2, c2, k1, k2, kF⟩ := k_life7 j1 j2 hK' hn' hm' g0' g1' hf' p c y w
  have x2 := XCall.ext _ _ _ _ _ _ c2 (by rw [j1.1]; decide) 1 (by decide)
  have hg : ∀ b, b < 490 → g' b = g b := fun b hb => by
    have e : rd h1 537 b = rd h 537 b := rdF (b := b) w_rg_537 (by decide) jF (by unfold ahit; rfl)
    rw [rd_row hK'.2.2.1 hb, rd_row hK.2.2.1 hb] at e
    exact int_inj e
  have en : n' = n := nI_inj (by omega) (by omega) (by rw [← g0, ← g0', hg 0 (by decide)])
  have em : m' = m := nI_inj (by omega) (by omega) (by rw [← g1, ← g1', hg 1 (by decide)])
  subst en
  subst em
  have ev : lcode n' m' (lvOf g' n' m' c) (fun i => g' (90 + i)) p c y w = lcode n' m' (lvOf g n' m' c) (fun i => g (90 + i)) p c y w := by
    rw [lvOf_f hm hg]
    exact lcode_f fun j hj => hg (90 + j) (by omega)
  rw [ev] at c2
  exact ⟨_, h1, h2, c1, j1, x1, c2, invw_fr hI1 k1 k2 kF (by decide +kernel) x2⟩
