/-! persons of both sides: what they have in common, and what keeps it -/
theorem prs_eq {f g : Nat → Int32} (h : ∀ j, j < 490 → g j = f j) (hs : prs f) : prs g := by
  refine ⟨fun m hm => ?_, fun i hi => ⟨?_, ?_⟩⟩
  · unfold prF
    rw [h _ (by omega), h _ (by omega)]
    exact hs.1 m hm
  · unfold prF
    rw [h _ (by omega), h _ (by omega)]
    exact (hs.2 i hi).1
  · unfold prF
    rw [h _ (by omega), h _ (by omega)]
    exact (hs.2 i hi).2
def RP (h : XH) (W A P : Nat) : Prop := ∃ n : Nat, n ≤ 8 ∧ rd h W 0 = some (.int (nI n)) ∧ rd h P 0 = some (.int (nI n)) ∧ ∀ i, i < n → rd h A i = rd h P (90 + i)
def relp (h : XH) : Prop := RP h 14 15 537 ∧ RP h 42 43 538 ∧ ∃ x : Int32, rd h 13 2 = some (.int x) ∧ rd h 536 3 = some (.int x)
def INVp (L : Nat) (xs : Nat → Int32) (h : XH) : Prop := AInv w_W h ∧ PInv w_W w_P h [] ∧ PInv w_W (67, w_P.2) h [] ∧ relp h ∧ h.2.2 1 = .inr (.inl (0, L, xs))
theorem RP.fr {h h1 : XH} {W A P : Nat} (k : RP h W A P) (e1 : rd h1 W 0 = rd h W 0) (e2 : rd h1 P 0 = rd h P 0) (e3 : ∀ i, i < 8 → rd h1 A i = rd h A i) (e4 : ∀ i, i < 8 → rd h1 P (90 + i) = rd h P (90 + i)) : RP h1 W A P := by
  obtain ⟨n, hn, a, b, c⟩ := k
  exact ⟨n, hn, e1.trans a, e2.trans b, fun i hi => (e3 i (by omega)).trans ((c i hi).trans (e4 i (by omega)).symm)⟩
def psafe (ws : AWr) : Bool := !ahit ws 14 0 && (!ahit ws 66 0 && (!ahit ws 27 0 && (!(ws.any fun w => Nat.beq w.1 67) && (!ahit ws 13 2 && (!ahit ws 65 3 && ((List.range 8).all fun i => !ahit ws 15 ((i : Nat) : Int) && (!ahit ws 28 ((i : Nat) : Int) && !ahit ws 66 ((90 + i : Nat) : Int))))))))
theorem rd538 {ws : AWr} {h h1 : XH} (hF : AFr w_W ws h h1) (hs : ∀ w ∈ ws, ¬ w.1 = 67) (b : Nat) : rd h1 538 b = rd h 538 b := hF 538 b (by decide) fun w hw hc => hs w hw (hc.1.trans ((w_W1 538).trans w_rg_538))
theorem invp_fr {L : Nat} {xs : Nat → Int32} {ws : AWr} {h h1 : XH} (hI : INVp L xs h) (h2 : AInv w_W h1) (h3 : PInv w_W w_P h1 []) (hF : AFr w_W ws h h1) (hs : psafe ws = true) (he : h1.2.2 1 = h.2.2 1) : INVp L xs h1 := by
  unfold psafe at hs
  simp only [Bool.and_eq_true, Bool.not_eq_true', List.all_eq_true, List.mem_range] at hs
  obtain ⟨s1, s2, s3, s4, s5, s6, s7⟩ := hs
  obtain ⟨-, -, p2, ⟨r1, r2, x, r5, r6⟩, hsc⟩ := hI
  have s4' := w67 (ws := ws) (by rw [s4]; rfl)
  refine ⟨h2, h3, PInv.out (P := (67, w_P.2)) hF s4' p2, ⟨r1.fr ?_ ?_ (fun i hi => ?_) (fun i hi => ?_), r2.fr ?_ (rd538 hF s4' 0) (fun i hi => ?_) (fun i hi => rd538 hF s4' _), x, ?_, ?_⟩, he.trans hsc⟩
  · exact rdF (b := 0) w_rg_14 (by decide) hF s1
  · exact rdF (b := 0) w_rg_537 (by decide) hF s2
  · exact rdF (b := i) w_rg_15 (by decide) hF (s7 i hi).1
  · exact rdF (b := 90 + i) w_rg_537 (by decide) hF (s7 i hi).2.2
  · exact rdF (b := 0) w_rg_42 (by decide) hF s3
  · exact rdF (b := i) w_rg_43 (by decide) hF (s7 i hi).2.1
  · exact (rdF (b := 2) w_rg_13 (by decide) hF s5).trans r5
  · exact (rdF (b := 3) w_rg_536 (by decide) hF s6).trans r6
theorem K_one {c : ACt} (hc : AHp w_W w_P c) (hs : psafe c.1.2.2.2.1 = true) (ho : aints c.1.2.2.1 = true) (hm : c.2.1 = []) (hd : c.1.2.2.2.2 ≤ 11) {as : List Value} (ha : gal w_W c.1.2.1 as) {L : Nat} {xs : Nat → Int32} {h : XH} (hI : INVp L xs h) : ∃ (v : Int32) (h1 : XH), XCall xM 11 c.1.1 as h (some (.int v)) h1 ∧ INVp L xs h1 := by
  obtain ⟨v, h1, k1, k2, k3, k4, o, ho2, o1, -, -⟩ := hc.2 as h hI.1 hI.2.1 ha (by rw [hm]; exact fun q hq => by cases hq)
  obtain ⟨x, rfl⟩ := aints_ok ho ho2 o1
  have e := XCall.ext _ _ _ _ _ _ k1 (by rw [hI.1.1]; decide) 1 (by decide)
  exact ⟨x, h1, XCall.up hd k1, invp_fr hI k2 k3 k4 hs e⟩
theorem pcode_eq {n : Nat} {f g : Nat → Int32} (hn : n ≤ 8) (h : ∀ i, i < n → f i = g i) (a p : Int32) : pcode n f a p = pcode n g a p := by
  unfold pcode
  by_cases h1 : ¬ p = Int32.ofInt (-1) ∧ ¬ (0 ≤ p ∧ p < nI n)
  · rw [if_pos h1, if_pos h1]
  · rw [if_neg h1, if_neg h1]
    by_cases hp : p = Int32.ofInt (-1)
    · rw [if_neg (show ¬ (¬ p = Int32.ofInt (-1) ∧ f p.toNatClampNeg ≤ a) from fun q => q.1 hp), if_neg (show ¬ (¬ p = Int32.ofInt (-1) ∧ g p.toNatClampNeg ≤ a) from fun q => q.1 hp)]
    · have hb : 0 ≤ p ∧ p < nI n := Classical.byContradiction fun q => h1 ⟨hp, q⟩
      have e0 : (0 : Int32).toInt = 0 := by decide
      have e1 : (0 : Int32).toInt ≤ p.toInt := Int32.le_iff_toInt_le.mp hb.1
      have e2 : p.toInt < (nI n).toInt := Int32.lt_iff_toInt_lt.mp hb.2
      rw [nI_toInt (by omega)] at e2
      have e : f p.toNatClampNeg = g p.toNatClampNeg := h _ (by show p.toInt.toNat < n; omega)
      rw [e]
theorem pcode_lt {n : Nat} {f : Nat → Int32} {a p : Int32} (h : pcode n f a p = 0) : n < 8 := by
  unfold pcode at h
  split at h
  · exact absurd h (by decide)
  · split at h
    · exact absurd h (by decide)
    · split at h
      · exact absurd h (by decide)
      · split at h
        · exact absurd h (by decide)
        · omega
theorem K_person (a p : Int32) {L : Nat} {xs : Nat → Int32} {h : XH} (hI : INVp L xs h) : ∃ (v : Int32) (h1 h2 : XH), XCall xM 11 62 [.ref 13, .int a, .int p] h (some (.int v)) h1 ∧ AInv w_W h1 ∧ h1.2.2 1 = h.2.2 1 ∧ XCall xM 11 113 [.ref 536, .int a, .int p] h1 (some (.int v)) h2 ∧ INVp L xs h2 := by
  obtain ⟨i1, i2, i3, ⟨⟨n, hn, r1, r2, r3⟩, rk, x, r5, r6⟩, hsc⟩ := id hI
  obtain ⟨fs, h13, hs0, -, -⟩ := w_lg i1
  obtain ⟨fw, h14, hw1, -, -⟩ := w_wo i1
  obtain ⟨f, h15⟩ := w_ints i1 (k := 15) (by decide) w_rg_15 (show w_S 15 = (1, 0, 8, [], w_s15.2.2.2.2) from rfl)
  obtain ⟨ms, m1, m2, -, -⟩ := w_mod i1
  obtain ⟨g, m3⟩ := w_row i1 (Or.inl rfl)
  have hw0 : fw[0]? = some (.int (nI n)) := (rd_fld h14).symm.trans r1
  have g0 : g 0 = nI n := by
    rw [rd_row m3 (by decide)] at r2
    exact Value.int.inj (Option.some.inj r2)
  have hfg : ∀ i, i < n → f i = g (90 + i) := fun i hi => by
    have e := r3 i hi
    rw [rd_ints h15 (by omega), rd_row m3 (by omega)] at e
    exact Value.int.inj (Option.some.inj e)
  have ep : pcode n f a p = pcode n (fun i => g (90 + i)) a p := pcode_eq hn hfg a p
  by_cases hz : pcode n f a p = 0
  · have hn8 := pcode_lt hz
    obtain ⟨h1, c1, j1, j2, jF, j0, ja, -⟩ := cgood h_4 i1 i2 hn8 r1 a p
    have c1 : XCall xM 9 62 [.ref 13, .int a, .int p] h (some (.int (nI n))) h1 := XCall.of (M := xm_X6_person) rfl (Nat.le_of_ble_eq_true rfl) (cperson i1.1 h13 hs0 h14 hw0 hw1 h15 hn a p (fun x hx e => absurd (e.symm.trans hz) hx) (fun _ => c1))
    have q3 : ∀ b, rd h1 537 b = rd h 537 b := fun b => rdF (b := b) w_rg_537 (by decide) jF (by unfold ahit; rfl)
    obtain ⟨h2, c2, k1, k2, kF, G, G1, e1, e2, e3⟩ := mgood j1 j2 hn8 ((q3 0).trans r2) a p
    have hG : ∀ b, b < 490 → G b = g b := fun b hb => by
      have e := q3 b
      rw [rd_row e1 hb, rd_row m3 hb] at e
      exact Value.int.inj (Option.some.inj e)
    obtain ⟨ms1, m4, m5, -, -⟩ := w_mod j1
    have ep2 : pcode n (fun i => G (90 + i)) a p = 0 := (pcode_eq hn (fun i hi => (hG (90 + i) (by omega)).trans (hfg i hi).symm) a p).trans hz
    have c2 : XCall xM 9 113 [.ref 536, .int a, .int p] h1 (some (.int (nI n))) h2 := XCall.of (M := xm_X7_person) rfl (Nat.le_of_ble_eq_true rfl) (mperson j1.1 m4 m5 e1 ((hG 0 (by decide)).trans g0) hn a p (fun x hx e => absurd (e.symm.trans ep2) hx) (fun _ => c2))
    have x1 := XCall.ext _ _ _ _ _ _ c1 (by rw [i1.1]; decide) 1 (by decide)
    have x2 := XCall.ext _ _ _ _ _ _ c2 (by rw [j1.1]; decide) 1 (by decide)
    have s1 : ∀ w ∈ [(14, (0 : Int), (0 : Int)), (15, 0, 7), (16, 0, 7), (58, 0, 0)], ¬ w.1 = 67 := by decide
    have s2 : ∀ w ∈ [(66, (0 : Int), (0 : Int)), (66, 90, 97), (66, 100, 107)], ¬ w.1 = 67 := by decide
    refine ⟨nI n, h1, h2, XCall.up (by decide) c1, j1, x1, XCall.up (by decide) c2, k1, k2, PInv.out (P := (67, w_P.2)) kF s2 (PInv.out (P := (67, w_P.2)) jF s1 i3), ⟨⟨n + 1, by omega, ?_, ?_, fun i hi => ?_⟩, rk.fr ?_ ((rd538 kF s2 0).trans (rd538 jF s1 0)) (fun i hi => ?_) (fun i hi => (rd538 kF s2 _).trans (rd538 jF s1 _)), x, ?_, ?_⟩, x2.trans (x1.trans hsc)⟩
    · exact (rdF (b := 0) w_rg_14 (by decide) kF (by decide)).trans j0
    · rw [rd_row e2 (by decide), e3, upd_at]
    · rw [rd_row e2 (by omega), e3, upd_ne (by omega), upd_ne (by omega)]
      refine ((rdF (b := i) w_rg_15 (by decide) kF (by unfold ahit; rfl)).trans (ja i (by omega))).trans ?_
      by_cases hin : i = n
      · rw [if_pos hin, hin, upd_at]
      · rw [if_neg hin, upd_ne (by omega), hG _ (by omega), r3 i (by omega), rd_row m3 (by omega)]
    · exact (rdF (b := 0) w_rg_42 (by decide) kF (by decide)).trans (rdF (b := 0) w_rg_42 (by decide) jF (by decide))
    · exact (rdF (b := i) w_rg_43 (by decide) kF (by unfold ahit; rfl)).trans (rdF (b := i) w_rg_43 (by decide) jF (by unfold ahit; rfl))
    · exact ((rdF (b := 2) w_rg_13 (by decide) kF (by decide)).trans (rdF (b := 2) w_rg_13 (by decide) jF (by decide))).trans r5
    · exact ((rdF (b := 3) w_rg_536 (by decide) kF (by decide)).trans (rdF (b := 3) w_rg_536 (by decide) jF (by decide))).trans r6
  · have c1 : XCall xM 9 62 [.ref 13, .int a, .int p] h (some (.int (pcode n f a p))) h := XCall.of (M := xm_X6_person) rfl (Nat.le_of_ble_eq_true rfl) (cperson i1.1 h13 hs0 h14 hw0 hw1 h15 hn a p (fun x hx e => ⟨by rw [e], rfl⟩) (fun e => absurd e hz))
    have c2 : XCall xM 9 113 [.ref 536, .int a, .int p] h (some (.int (pcode n f a p))) h := XCall.of (M := xm_X7_person) rfl (Nat.le_of_ble_eq_true rfl) (mperson i1.1 m1 m2 m3 g0 hn a p (fun x hx e => ⟨by rw [ep, e], rfl⟩) (fun e => absurd (ep.trans e) hz))
    exact ⟨_, h, h, XCall.up (by decide) c1, i1, rfl, XCall.up (by decide) c2, hI⟩
theorem K_image {L : Nat} {xs : Nat → Int32} {h : XH} (hI : INVp L xs h) : ∃ (v : Int32) (h1 h2 : XH), XCall xM 11 86 [.ref 13] h (some (.int v)) h1 ∧ AInv w_W h1 ∧ h1.2.2 1 = h.2.2 1 ∧ XCall xM 11 180 [.ref 536] h1 (some (.int v)) h2 ∧ INVp L xs h2 := by
  obtain ⟨i1, i2, i3, ⟨⟨n, hn, r1, r2, r3⟩, rk, x, r5, r6⟩, hsc⟩ := id hI
  obtain ⟨h1, c1, j1, j2, jF, j0, k0, -, ka, -⟩ := cimage i1 i2 r1
  have q3 : ∀ b, rd h1 537 b = rd h 537 b := fun b => rdF (b := b) w_rg_537 (by decide) jF (by unfold ahit bq_i; rfl)
  have e1 := XCall.ext _ _ _ _ _ _ c1 (by rw [i1.1]; decide) 1 (by decide)
  obtain ⟨w, h2, f, f1, d1, d0, d2, d3, d4, d5, d6, d7, d8⟩ := im_ok 10 j1
  subst d0
  have e2 := XCall.ext _ _ _ _ _ _ d1 (by rw [j1.1]; decide) 1 (by decide)
  have g1 : h2.2.2 537 = .inr (.inl (0, 490, f)) := (d6 537 (by decide) (by decide)).trans d3
  have p1 := pinv_to (by decide) w_rg_537 d3 j2
  have f0 : f 0 = nI n := by
    have e := (q3 0).trans r2
    rw [rd_row d3 (by decide)] at e
    exact Value.int.inj (Option.some.inj e)
  have y14 : ∀ b, rd h2 14 b = rd h1 14 b := rd_same (d6 14 (by decide) (by decide))
  have y15 : ∀ b, rd h2 15 b = rd h1 15 b := rd_same (d6 15 (by decide) (by decide))
  have y42 : ∀ b, rd h2 42 b = rd h1 42 b := rd_same (d6 42 (by decide) (by decide))
  have y43 : ∀ b, rd h2 43 b = rd h1 43 b := rd_same (d6 43 (by decide) (by decide))
  have y13 : ∀ b, rd h2 13 b = rd h1 13 b := rd_same (d6 13 (by decide) (by decide))
  have y537 : ∀ b, rd h2 537 b = rd h1 537 b := rd_same (d6 537 (by decide) (by decide))
  rw [f0] at d1
  refine ⟨nI n, h1, h2, c1, j1, e1, d1, d2, pinv_of (p := 537) (by decide) w_rg_537 rfl g1 p1, pinv_of (p := 538) (by decide) w_rg_538 rfl d4 (prs_eq d5 p1), ⟨⟨n, hn, ?_, ?_, fun i hi => ?_⟩, ⟨n, hn, ?_, ?_, fun i hi => ?_⟩, 1, ?_, d8⟩, e2.trans (e1.trans hsc)⟩
  · exact (y14 0).trans ((rdF (b := 0) w_rg_14 (by decide) jF (by decide)).trans r1)
  · exact (y537 0).trans ((q3 0).trans r2)
  · exact ((y15 i).trans (rdF (b := i) w_rg_15 (by decide) jF (by unfold ahit bq_i; rfl))).trans ((r3 i hi).trans ((y537 _).trans (q3 _)).symm)
  · exact (y42 0).trans (k0.trans r1)
  · rw [rd_row d4 (by decide), d5 0 (by decide), f0]
  · rw [rd_row d4 (by omega), d5 _ (by omega), ← rd_row d3 (by omega), q3, y43, ka i (by omega)]
    exact r3 i hi
  · exact (y13 2).trans j0
theorem K_undo {L : Nat} {xs : Nat → Int32} {h : XH} (hI : INVp L xs h) : ∃ (v : Int32) (h1 h2 : XH), XCall xM 11 87 [.ref 13] h (some (.int v)) h1 ∧ AInv w_W h1 ∧ h1.2.2 1 = h.2.2 1 ∧ XCall xM 11 181 [.ref 536] h1 (some (.int v)) h2 ∧ INVp L xs h2 := by
  obtain ⟨i1, i2, i3, ⟨rw1, ⟨n, hn, r1, r2, r3⟩, x, r5, r6⟩, hsc⟩ := id hI
  have hx01 : 0 ≤ x.toInt ∧ x.toInt ≤ 1 := by
    obtain ⟨fs, g1, -, -, -⟩ := w_mod i1
    obtain ⟨y, hy, y1, y2⟩ := w_has i1 g1
    have e : rd h 536 3 = some (.int y) := by unfold rd; rw [g1]; exact hy
    rw [r6] at e
    cases e
    exact ⟨y1, y2⟩
  rcases i32_01 hx01.1 hx01.2 with rfl | rfl
  · rcases un_ok 10 i1 with ⟨g1, g2⟩ | ⟨w, h2, f, f1, -, -, -, g3, -⟩
    · exact ⟨_, h, h, cundo0 i1 r5, i1, rfl, g2, hI⟩
    · rw [r6] at g3
      cases g3
  · obtain ⟨h1, c1, j1, j2, jF, k0, -, ka, -⟩ := cundo1 i1 i2 r5 r1
    have s1 : ∀ w ∈ (58, (0 : Int), (0 : Int)) :: bq_u, ¬ w.1 = 67 := by decide
    have q3 : ∀ b, rd h1 538 b = rd h 538 b := rd538 jF s1
    have p2 : PInv w_W (67, w_P.2) h1 [] := PInv.out (P := (67, w_P.2)) jF s1 i3
    have e1 := XCall.ext _ _ _ _ _ _ c1 (by rw [i1.1]; decide) 1 (by decide)
    have f536 : rd h1 536 3 = some (.int 1) := (rdF (b := 3) w_rg_536 (by decide) jF (by decide)).trans r6
    rcases un_ok 10 j1 with ⟨g1, g2⟩ | ⟨w, h2, f, f1, d1, d9, d2, d0, d3, d4, d5, d6⟩
    · rw [f536] at g1
      cases g1
    · subst d9
      have e2 := XCall.ext _ _ _ _ _ _ d1 (by rw [j1.1]; decide) 1 (by decide)
      have g1 : h2.2.2 538 = .inr (.inl (0, 490, f)) := (d6 538 (by decide)).trans d3
      have p1 := pinv_to (by decide) w_rg_538 d3 p2
      have f0 : f 0 = nI n := by
        have e := (q3 0).trans r2
        rw [rd_row d3 (by decide)] at e
        exact Value.int.inj (Option.some.inj e)
      have y14 : ∀ b, rd h2 14 b = rd h1 14 b := rd_same (d6 14 (by decide))
      have y15 : ∀ b, rd h2 15 b = rd h1 15 b := rd_same (d6 15 (by decide))
      have y42 : ∀ b, rd h2 42 b = rd h1 42 b := rd_same (d6 42 (by decide))
      have y43 : ∀ b, rd h2 43 b = rd h1 43 b := rd_same (d6 43 (by decide))
      have y13 : ∀ b, rd h2 13 b = rd h1 13 b := rd_same (d6 13 (by decide))
      have y536 : ∀ b, rd h2 536 b = rd h1 536 b := rd_same (d6 536 (by decide))
      have y538 : ∀ b, rd h2 538 b = rd h1 538 b := rd_same (d6 538 (by decide))
      rw [d5 0 (by decide), f0] at d1
      refine ⟨nI n, h1, h2, c1, j1, e1, d1, d2, pinv_of (p := 537) (by decide) w_rg_537 rfl d4 (prs_eq d5 p1), pinv_of (p := 538) (by decide) w_rg_538 rfl g1 p1, ⟨⟨n, hn, ?_, ?_, fun i hi => ?_⟩, ⟨n, hn, ?_, ?_, fun i hi => ?_⟩, 1, ?_, ?_⟩, e2.trans (e1.trans hsc)⟩
      · exact (y14 0).trans (k0.trans r1)
      · rw [rd_row d4 (by decide), d5 0 (by decide), f0]
      · rw [rd_row d4 (by omega), d5 _ (by omega), ← rd_row d3 (by omega), q3, y15, ka i (by omega)]
        exact r3 i hi
      · exact (y42 0).trans ((rdF (b := 0) w_rg_42 (by decide) jF (by decide)).trans r1)
      · exact (y538 0).trans ((q3 0).trans r2)
      · exact ((y43 i).trans (rdF (b := i) w_rg_43 (by decide) jF (by unfold ahit bq_u; rfl))).trans ((r3 i hi).trans ((y538 _).trans (q3 _)).symm)
      · exact (y13 2).trans ((rdF (b := 2) w_rg_13 (by decide) jF (by decide)).trans r5)
      · exact (y536 3).trans f536
theorem INVp_0 (L : Nat) (xs : Nat → Int32) (fl : Bool) : INVp L xs (xh0 (xg L xs fl)) := by
  obtain ⟨a, b, c, -, d⟩ := INV_0 L xs fl
  exact ⟨a, b, c, ⟨⟨0, by decide, rfl, rfl, fun i hi => absurd hi (by omega)⟩, ⟨0, by decide, rfl, rfl, fun i hi => absurd hi (by omega)⟩, 0, rfl, rfl⟩, d⟩
