/-! THE ROW of both sides: what they have in common, and who leaves it -/
def RR (h : XH) (W rp P : Nat) : Prop := ∃ R : Nat, R ≤ 41 ∧ rd h W 11 = some (.int (nI R)) ∧ rd h P 3 = some (.int (nI R)) ∧ ∀ i, i < R → rd h rp i = rd h P (440 + i)
def INVr (L : Nat) (xs : Nat → Int32) (h : XH) : Prop := INVg L xs h ∧ RR h 14 22 537 ∧ RR h 42 50 538
theorem RR.fr {h h1 : XH} {W rp P W1 rp1 P1 : Nat} (k : RR h W rp P) (e11 : rd h1 W1 11 = rd h W 11) (e3 : rd h1 P1 3 = rd h P 3) (er : ∀ i, i < 41 → rd h1 rp1 i = rd h rp i) (ep : ∀ i, i < 41 → rd h1 P1 (440 + i) = rd h P (440 + i)) : RR h1 W1 rp1 P1 := by
  obtain ⟨R, r0, r1, r2, r3⟩ := k
  exact ⟨R, r0, e11.trans r1, e3.trans r2, fun i hi => (er i (by omega)).trans ((r3 i hi).trans (ep i (by omega)).symm)⟩
/-- writes that leave both rows -/
def rsafe (ws : AWr) : Bool := ws.all fun w => (!Nat.beq w.1 14 || (decide (11 < w.2.1) || decide (w.2.2 < 11))) && (!Nat.beq w.1 22 && ((!Nat.beq w.1 66 || ((decide (3 < w.2.1) || decide (w.2.2 < 3)) && (decide (480 < w.2.1) || decide (w.2.2 < 440)))) && ((!Nat.beq w.1 27 || (decide (11 < w.2.1) || decide (w.2.2 < 11))) && (!Nat.beq w.1 35 && !Nat.beq w.1 67))))
theorem rr_fr {ws : AWr} {h h1 : XH} (hF : AFr w_W ws h h1) (hs : rsafe ws = true) : (RR h 14 22 537 → RR h1 14 22 537) ∧ (RR h 42 50 538 → RR h1 42 50 538) := by
  have no : ∀ w ∈ ws, (w.1 = 14 → 11 < w.2.1 ∨ w.2.2 < 11) ∧ ¬ w.1 = 22 ∧ (w.1 = 66 → (3 < w.2.1 ∨ w.2.2 < 3) ∧ (480 < w.2.1 ∨ w.2.2 < 440)) ∧ (w.1 = 27 → 11 < w.2.1 ∨ w.2.2 < 11) ∧ ¬ w.1 = 35 ∧ ¬ w.1 = 67 := fun w hw => by
    have q := List.all_eq_true.mp hs w hw
    simp only [Bool.and_eq_true, Bool.or_eq_true, Bool.not_eq_true', decide_eq_true_eq] at q
    obtain ⟨q1, q2, q3, q4, q5, q6⟩ := q
    exact ⟨fun e => q1.resolve_left fun z => Nat.ne_of_beq_eq_false z e, Nat.ne_of_beq_eq_false q2, fun e => q3.resolve_left fun z => Nat.ne_of_beq_eq_false z e, fun e => q4.resolve_left fun z => Nat.ne_of_beq_eq_false z e, Nat.ne_of_beq_eq_false q5, Nat.ne_of_beq_eq_false q6⟩
  obtain ⟨⟨y1, -⟩, y2, -⟩ := w_rg_y
  refine ⟨fun k => k.fr (hF.no (by decide) w_rg_14 fun w hw z y => ?_) (hF.no (by decide) w_rg_537 fun w hw z y => ?_) (fun i _ => hF.no (by decide) y1 fun w hw z => absurd z (no w hw).2.1) (fun i hi => hF.no (by decide) w_rg_537 fun w hw z y => ?_), fun k => k.fr (hF.no (by decide) w_rg_42 fun w hw z y => ?_) (hF.no (by decide) w_rg_538 fun w hw z => absurd z (no w hw).2.2.2.2.2) (fun i _ => hF.no (by decide) y2 fun w hw z => absurd z (no w hw).2.2.2.2.1) (fun i hi => hF.no (by decide) w_rg_538 fun w hw z => absurd z (no w hw).2.2.2.2.2)⟩
  · have := (no w hw).1 z; omega
  · have := (no w hw).2.2.1 z; omega
  · have := (no w hw).2.2.1 z; omega
  · have := (no w hw).2.2.2.1 z; omega
/-- one side's call that leaves all of it -/
theorem R_one {c : ACt} (hc : AHp w_W w_P c) (hs : vsafe c.1.2.2.2.1 = true) (hg : (rsafe c.1.2.2.2.1 && (ssafe c.1.2.2.2.1 && (gsafeW c.1.2.2.2.1 && gsafeK c.1.2.2.2.1))) = true) (ho : aints c.1.2.2.1 = true) (hm : c.2.1 = []) (hd : c.1.2.2.2.2 ≤ 11) {as : List Value} (ha : gal w_W c.1.2.1 as) {L : Nat} {xs : Nat → Int32} {h : XH} (hR : INVr L xs h) : ∃ (v : Int32) (h1 : XH), XCall xM 11 c.1.1 as h (some (.int v)) h1 ∧ INVr L xs h1 := by
  rw [Bool.and_eq_true] at hg
  obtain ⟨v, h1, c1, i1⟩ := G_one hc hs hg.2 ho hm hd ha hR.1
  obtain ⟨v', h1', d1, -, -, jF⟩ := contract hc ho hm ha hR.1.1.1 hR.1.1.2.1
  obtain ⟨-, e⟩ := XCall.det c1 d1
  subst e
  exact ⟨v, h1, c1, i1, (rr_fr jF hg.1).1 hR.2.1, (rr_fr jF hg.1).2 hR.2.2⟩
/-- both sides' call that leaves the rows -/
theorem R_two {cc cm : ACt} (hc : AHp w_W w_P cc) (ho : aints cc.1.2.2.1 = true) (hm : cc.2.1 = []) (hs : rsafe cc.1.2.2.2.1 = true) {as bs : List Value} (ha : gal w_W cc.1.2.1 as) (hc2 : AHp w_W w_P cm) (ho2 : aints cm.1.2.2.1 = true) (hm2 : cm.2.1 = []) (hs2 : rsafe cm.1.2.2.2.1 = true) (ha2 : gal w_W cm.1.2.1 bs) {L : Nat} {xs : Nat → Int32} {h : XH} (hR : INVr L xs h) (hG : ∃ (v : Int32) (h1 h2 : XH), XCall xM 11 cc.1.1 as h (some (.int v)) h1 ∧ AInv w_W h1 ∧ h1.2.2 1 = h.2.2 1 ∧ XCall xM 11 cm.1.1 bs h1 (some (.int v)) h2 ∧ INVg L xs h2) : ∃ (v : Int32) (h1 h2 : XH), XCall xM 11 cc.1.1 as h (some (.int v)) h1 ∧ AInv w_W h1 ∧ h1.2.2 1 = h.2.2 1 ∧ XCall xM 11 cm.1.1 bs h1 (some (.int v)) h2 ∧ INVr L xs h2 := by
  obtain ⟨v, h1, h2, c1, j1, x1, c2, i2⟩ := hG
  obtain ⟨v', h1', d1, -, p1, jF⟩ := contract hc ho hm ha hR.1.1.1 hR.1.1.2.1
  obtain ⟨-, e⟩ := XCall.det c1 d1
  subst e
  obtain ⟨v'', h2', d2, -, -, kF⟩ := contract hc2 ho2 hm2 ha2 j1 p1
  obtain ⟨-, e⟩ := XCall.det c2 d2
  subst e
  exact ⟨v, h1, h2, c1, j1, x1, c2, i2, (rr_fr kF hs2).1 ((rr_fr jF hs).1 hR.2.1), (rr_fr kF hs2).2 ((rr_fr jF hs).2 hR.2.2)⟩
theorem R_feed (w : Int64) (n : Int32) {L : Nat} {xs : Nat → Int32} {h : XH} (hR : INVr L xs h) : ∃ (v : Int32) (h1 h2 : XH), XCall xM 11 65 [.ref 13, .long w, .int n] h (some (.int v)) h1 ∧ AInv w_W h1 ∧ h1.2.2 1 = h.2.2 1 ∧ XCall xM 11 120 [.ref 536, .long w, .int n] h1 (some (.int v)) h2 ∧ INVr L xs h2 :=
  R_two h_38 (by decide +kernel) rfl (by decide +kernel) (gal13 (galL w (galT n gal0))) h_253 (by decide +kernel) rfl (by decide +kernel) (gal536 (galL w (galT n gal0))) hR (G_feed w n hR.1)
theorem R_grant {L : Nat} {xs : Nat → Int32} {h : XH} (hR : INVr L xs h) : ∃ (v : Int32) (h1 h2 : XH), XCall xM 11 66 [.ref 13] h (some (.int v)) h1 ∧ AInv w_W h1 ∧ h1.2.2 1 = h.2.2 1 ∧ XCall xM 11 130 [.ref 536] h1 (some (.int v)) h2 ∧ INVr L xs h2 :=
  R_two h_92 (by decide +kernel) rfl (by decide +kernel) (gal13 gal0) h_713 (by decide +kernel) rfl (by decide +kernel) (gal536 gal0) hR (G_grant hR.1)
theorem R_strike (gr x : Int32) {L : Nat} {xs : Nat → Int32} {h : XH} (hR : INVr L xs h) : ∃ (v : Int32) (h1 h2 : XH), XCall xM 11 78 [.ref 13, .int gr, .int x] h (some (.int v)) h1 ∧ AInv w_W h1 ∧ h1.2.2 1 = h.2.2 1 ∧ XCall xM 11 162 [.ref 536, .int gr, .int x] h1 (some (.int v)) h2 ∧ INVr L xs h2 :=
  R_two h_153 (by decide +kernel) rfl (by decide +kernel) (gal13 (galT gr (galT x gal0))) h_5000 (by decide +kernel) rfl (by decide +kernel) (gal536 (galT gr (galT x gal0))) hR (G_strike gr x hR.1)
theorem R_mend (gr i x : Int32) {L : Nat} {xs : Nat → Int32} {h : XH} (hR : INVr L xs h) : ∃ (v : Int32) (h1 h2 : XH), XCall xM 11 79 [.ref 13, .int gr, .int i, .int x] h (some (.int v)) h1 ∧ AInv w_W h1 ∧ h1.2.2 1 = h.2.2 1 ∧ XCall xM 11 163 [.ref 536, .int gr, .int i, .int x] h1 (some (.int v)) h2 ∧ INVr L xs h2 :=
  R_two h_170 (by decide +kernel) rfl (by decide +kernel) (gal13 (galT gr (galT i (galT x gal0)))) h_963 (by decide +kernel) rfl (by decide +kernel) (gal536 (galT gr (galT i (galT x gal0)))) hR (G_mend gr i x hR.1)
theorem R_person (a p : Int32) {L : Nat} {xs : Nat → Int32} {h : XH} (hR : INVr L xs h) : ∃ (v : Int32) (h1 h2 : XH), XCall xM 11 62 [.ref 13, .int a, .int p] h (some (.int v)) h1 ∧ AInv w_W h1 ∧ h1.2.2 1 = h.2.2 1 ∧ XCall xM 11 113 [.ref 536, .int a, .int p] h1 (some (.int v)) h2 ∧ INVr L xs h2 := by
  have hw := hR.1.1
  obtain ⟨v, h1, h2, c1, j1, x1, c2, i2⟩ := G_person a p hR.1
  obtain ⟨⟨n, m, hn, hm, a0, a1, a2, a3, b1, -⟩, -⟩ := id hw.2.2.2.1
  obtain ⟨v', h1', h2', d1, -, -, d2, -, hc⟩ := both_person a p hw.both hn a0 a1 b1
  obtain ⟨-, e1⟩ := XCall.det c1 d1
  subst e1
  obtain ⟨-, e2⟩ := XCall.det c2 d2
  subst e2
  refine ⟨v, h1, h2, c1, j1, x1, c2, i2, ?_⟩
  rcases hc with e | ⟨-, -, kF, -⟩
  · rw [e]
    exact hR.2
  · have q := rr_fr kF (by decide +kernel)
    exact ⟨q.1 hR.2.1, q.2 hR.2.2⟩
theorem R_maybe (a w y : Int32) {L : Nat} {xs : Nat → Int32} {h : XH} (hR : INVr L xs h) : ∃ (v : Int32) (h1 h2 : XH), XCall xM 11 63 [.ref 13, .int a, .int w, .int y] h (some (.int v)) h1 ∧ AInv w_W h1 ∧ h1.2.2 1 = h.2.2 1 ∧ XCall xM 11 114 [.ref 536, .int a, .int w, .int y] h1 (some (.int v)) h2 ∧ INVr L xs h2 := by
  have hw := hR.1.1
  obtain ⟨v, h1, h2, c1, j1, x1, c2, i2⟩ := G_maybe a w y hR.1
  obtain ⟨⟨n, m, hn, hm, a0, a1, a2, a3, b1, b2, b3, -⟩, -⟩ := id hw.2.2.2.1
  obtain ⟨v', h1', h2', d1, -, -, d2, -, hc⟩ := both_maybe a w y hw.both hn hm a0 a1 a2 a3 b3
  obtain ⟨-, e1⟩ := XCall.det c1 d1
  subst e1
  obtain ⟨-, e2⟩ := XCall.det c2 d2
  subst e2
  refine ⟨v, h1, h2, c1, j1, x1, c2, i2, ?_⟩
  rcases hc with e | ⟨-, -, kF, -⟩
  · rw [e]
    exact hR.2
  · have q := rr_fr kF (by decide +kernel)
    exact ⟨q.1 hR.2.1, q.2 hR.2.2⟩
theorem rdR {ws : AWr} {h h1 : XH} {k r : Nat} (hF : AFr w_W ws h h1) (hk : k < 549) (hr : w_rg k = r) (hs : ∀ w ∈ ws, ¬ w.1 = r) (b : Nat) : rd h1 k b = rd h k b := hF k b hk fun w hw hc => hs w hw (hc.1.trans ((w_W1 k).trans hr))
theorem R_image {L : Nat} {xs : Nat → Int32} {h : XH} (hR : INVr L xs h) : ∃ (v : Int32) (h1 h2 : XH), XCall xM 11 86 [.ref 13] h (some (.int v)) h1 ∧ AInv w_W h1 ∧ h1.2.2 1 = h.2.2 1 ∧ XCall xM 11 180 [.ref 536] h1 (some (.int v)) h2 ∧ INVr L xs h2 := by
  obtain ⟨v, h1, h2, c1, j1, x1, c2, i2⟩ := G_image hR.1
  obtain ⟨hI, rW, rK⟩ := hR
  have hw := hI.1
  obtain ⟨⟨n, m, hn, hm, a0, a1, -⟩, -⟩ := id hw.2.2.2.1
  obtain ⟨h1', cc, -, -, fC, -⟩ := cimage hw.1 hw.2.1 a0
  obtain ⟨-, e1⟩ := XCall.det c1 cc
  subst e1
  have ct := cimage_c hw.1 hw.2.1 hI.2.2.2.1 a0 c1
  obtain ⟨w, h2', f, f1, d1, -, -, d3, d4, d5, d6, -⟩ := im_ok 10 j1
  obtain ⟨-, e2⟩ := XCall.det c2 d1
  subst e2
  have q537 : ∀ j, rd h1 537 j = rd h 537 j := fun j => rdF (b := j) w_rg_537 (by decide) fC (by unfold ahit bq_i; rfl)
  have q22 : ∀ j, rd h1 22 j = rd h 22 j := fun j => rdR fC (by decide) w_rg_y.1.1 (by decide +kernel) j
  have q14 : rd h1 14 11 = rd h 14 11 := rdF (b := 11) w_rg_14 (by decide) fC (by decide +kernel)
  have s : ∀ z b, ¬ z = 538 → ¬ z = 536 → rd h2 z b = rd h1 z b := fun z b h1 h2 => rd_same (d6 z h1 h2) b
  have p : ∀ j, j < 490 → rd h2 538 j = rd h 537 j := fun j hj => by
    rw [rd_row d4 hj, d5 j hj, ← rd_row d3 hj]
    exact q537 j
  exact ⟨v, h1, h2, c1, j1, x1, c2, i2, rW.fr ((s 14 11 (by decide) (by decide)).trans q14) ((s 537 3 (by decide) (by decide)).trans (q537 3)) (fun i _ => (s 22 i (by decide) (by decide)).trans (q22 i)) (fun i _ => (s 537 _ (by decide) (by decide)).trans (q537 _)), rW.fr ((s 42 11 (by decide) (by decide)).trans ct.1.2.2) (p 3 (by decide)) (fun i hi => (s 50 i (by decide) (by decide)).trans (ct.2.2.1 i hi)) (fun i hi => p (440 + i) (by omega))⟩
theorem R_undo {L : Nat} {xs : Nat → Int32} {h : XH} (hR : INVr L xs h) : ∃ (v : Int32) (h1 h2 : XH), XCall xM 11 87 [.ref 13] h (some (.int v)) h1 ∧ AInv w_W h1 ∧ h1.2.2 1 = h.2.2 1 ∧ XCall xM 11 181 [.ref 536] h1 (some (.int v)) h2 ∧ INVr L xs h2 := by
  obtain ⟨v, h1, h2, c1, j1, x1, c2, i2⟩ := G_undo hR.1
  obtain ⟨hI, rW, rK⟩ := id hR
  have hw := hI.1
  obtain ⟨-, ⟨n, m, hn, hm, a0, -⟩, hK, y, r5, r6⟩ := id hw.2.2.2.1
  rcases hx01 hw.1 r6 with rfl | rfl
  · have cc := cundo0 hw.1 r5
    obtain ⟨-, e1⟩ := XCall.det c1 cc
    subst e1
    rcases un_ok 10 j1 with ⟨-, g2⟩ | ⟨w, h3, f, f1, -, -, -, g3, -⟩
    · obtain ⟨-, e2⟩ := XCall.det c2 g2
      subst e2
      exact ⟨v, h2, h2, c1, j1, x1, c2, hR⟩
    · rw [r6] at g3
      cases g3
  · obtain ⟨h1', cc, -, -, fC, -⟩ := cundo1 hw.1 hw.2.1 hK r5 a0
    obtain ⟨-, e1⟩ := XCall.det c1 cc
    subst e1
    have ct := cundo_c hw.1 hw.2.1 hK hI.2.2.2.1 r5 a0 c1
    have f536 : rd h1 536 3 = some (.int 1) := (rdF (b := 3) w_rg_536 (by decide) fC (by decide)).trans r6
    rcases un_ok 10 j1 with ⟨g1, -⟩ | ⟨w, h2', f, f1, d1, -, -, -, d3, d4, d5, d6⟩
    · rw [f536] at g1
      cases g1
    · obtain ⟨-, e2⟩ := XCall.det c2 d1
      subst e2
      have q538 : ∀ j, rd h1 538 j = rd h 538 j := fun j => rd538 fC (by decide) j
      have q42 : rd h1 42 11 = rd h 42 11 := rdF (b := 11) w_rg_42 (by decide) fC (by decide +kernel)
      have q50 : ∀ j, rd h1 50 j = rd h 50 j := fun j => rdR fC (by decide) w_rg_y.2.1 (by decide +kernel) j
      have s : ∀ z b, ¬ z = 537 → rd h2 z b = rd h1 z b := fun z b h1 => rd_same (d6 z h1) b
      have p : ∀ j, j < 490 → rd h2 537 j = rd h 538 j := fun j hj => by
        rw [rd_row d4 hj, d5 j hj, ← rd_row d3 hj]
        exact q538 j
      exact ⟨v, h1, h2, c1, j1, x1, c2, i2, rK.fr ((s 14 11 (by decide)).trans ct.1.2.2) (p 3 (by decide)) (fun i hi => (s 22 i (by decide)).trans (ct.2.2.1 i hi)) (fun i hi => p (440 + i) (by omega)), rK.fr ((s 42 11 (by decide)).trans q42) ((s 538 3 (by decide)).trans (q538 3)) (fun i _ => (s 50 i (by decide)).trans (q50 i)) (fun i _ => (s 538 _ (by decide)).trans (q538 _))⟩
theorem INVr_0 (L : Nat) (xs : Nat → Int32) (fl : Bool) : INVr L xs (xh0 (xg L xs fl)) :=
  ⟨INVg_0 L xs fl, ⟨0, by decide, rfl, rfl, fun i hi => absurd hi (Nat.not_lt_zero i)⟩, ⟨0, by decide, rfl, rfl, fun i hi => absurd hi (Nat.not_lt_zero i)⟩⟩
