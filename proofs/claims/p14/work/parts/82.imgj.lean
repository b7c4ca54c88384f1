/-! image and undo on both sides -/
def imok (n : Nat) (c : ACt) : Bool := Nat.beq c.1.1 86 && (decide (c.1.2.1 = [avR 13]) && (decide (c.2.1 = [(14, 11, (n : Int), (n : Int))]) && (aints c.1.2.2.1 && ((c.1.2.2.1.all fun o => decide ((13, 2, 1, 1) ∈ o.2.1) && decide ((27, 11, (n : Int), (n : Int)) ∈ o.2.1)) && (decide (c.1.2.2.2.2 ≤ 11) && (!ahit c.1.2.2.2.1 14 11 && (!ahit c.1.2.2.2.1 66 3 && (!(c.1.2.2.2.1.any fun w => Nat.beq w.1 67) && (!ahit c.1.2.2.2.1 65 3)))))))))
theorem im_chk : ((List.range 42).all fun n => match imcs[n]? with
  | some c => imok n c.2
  | _ => false) = true := by decide +kernel
def unok (n : Nat) (c : ACt) : Bool := Nat.beq c.1.1 87 && (decide (c.1.2.1 = [avR 13]) && (decide (c.2.1 = [(13, 2, 1, 1), (27, 11, (n : Int), (n : Int))]) && (aints c.1.2.2.1 && ((c.1.2.2.1.all fun o => decide ((14, 11, (n : Int), (n : Int)) ∈ o.2.1)) && (decide (c.1.2.2.2.2 ≤ 11) && (!ahit c.1.2.2.2.1 27 11 && (!ahit c.1.2.2.2.1 66 3 && (!(c.1.2.2.2.1.any fun w => Nat.beq w.1 67) && (!ahit c.1.2.2.2.1 13 2 && (!ahit c.1.2.2.2.1 65 3))))))))))
theorem un_chk : ((List.range 42).all fun n => match uncs[n]? with
  | some c => unok n c.2
  | _ => false) = true := by decide +kernel
def unc0 : ACt := c_1261
theorem unc0_h : AHp w_W w_P unc0 := h_1261
theorem rd_same {h h1 : XH} {k : Nat} (e : h1.2.2 k = h.2.2 k) (b : Nat) : rd h1 k b = rd h k b := by
  unfold rd
  rw [e]
theorem prs_eq {f g : Nat → Int32} (h : ∀ j, j < 490 → g j = f j) (hs : prs f) : prs g := by
  refine ⟨fun m hm => ?_, fun i hi => ⟨?_, ?_⟩⟩
  · unfold prF
    rw [h _ (by omega), h _ (by omega)]
    exact hs.1 m hm
  · unfold prF
    rw [h _ (by omega), h _ (by omega)]
    exact (hs.2 i hi).1
  · unfold prF
    rw [h _ (by omega), h _ (by omega)]
    exact (hs.2 i hi).2
theorem w_of {s : Int32} {n : Nat} (h1 : (n : Int) ≤ s.toInt) (h2 : s.toInt ≤ (n : Int)) {r : Int32} (h3 : (n : Int) = r.toInt) : s = r := Int32.toInt_inj.mp (by omega)
theorem J_image {L : Nat} {xs : Nat → Int32} {h : XH} (hI : INV L xs h) : ∃ (v w : Int32) (h1 h2 : XH), XCall xM 11 86 [.ref 13] h (some (.int v)) h1 ∧ AInv w_W h1 ∧ h1.2.2 1 = h.2.2 1 ∧ XCall xM 11 180 [.ref 536] h1 (some (.int w)) h2 ∧ INV L xs h2 := by
  obtain ⟨i1, i2, i3, ⟨r, q, x, hr, hq, r1, r2, r3, r4, r5, r6⟩, hsc⟩ := hI
  obtain ⟨n1, n2⟩ := nat_of hr
  have k := List.all_eq_true.mp im_chk _ (List.mem_range.mpr n1)
  split at k
  · rename_i c ec
    have hc := imcs_h c (List.mem_of_getElem? ec)
    obtain ⟨n0, c⟩ := c
    dsimp only at k hc
    unfold imok at k
    simp only [Bool.and_eq_true, decide_eq_true_eq, Bool.not_eq_true'] at k
    obtain ⟨a1, a3, a5, a7, a8, a9, b1, b2, b3, b4⟩ := k
    have a1 := Nat.eq_of_beq_eq_true a1
    have b3 := w67 (ws := c.1.2.2.2.1) (by rw [b3]; rfl)
    obtain ⟨v, h1, c1, c2, c3, c4, o, ho, o1, o2, -⟩ := hc.2 [.ref 13] h i1 i2 (by rw [a3]; exact gal13 gal0) (by rw [a5]; exact gm_one rfl (by decide) w_rg_14 r1 n2)
    obtain ⟨v, rfl⟩ := aints_ok a7 ho o1
    have e1 := XCall.ext _ _ _ _ _ _ c1 (by rw [i1.1]; decide) 1 (by decide)
    have hmm := List.all_eq_true.mp a8 o ho
    simp only [Bool.and_eq_true, decide_eq_true_eq] at hmm
    obtain ⟨y1, k1, k2, k3⟩ := gm_get (k := 13) (b := 2) (by decide) w_rg_13 o2 hmm.1
    obtain ⟨y2, k4, k5, k6⟩ := gm_get (k := 42) (b := 11) (by decide) w_rg_42 o2 hmm.2
    have hy1 : y1 = 1 := Int32.toInt_inj.mp (by have : (1 : Int32).toInt = 1 := by decide
                                                omega)
    have hy2 : y2 = r := w_of k5 k6 n2
    subst hy1
    subst hy2
    have f14 := (rdF (b := 11) w_rg_14 (by decide) c4 b1).trans r1
    have f537 := (rdF (b := 3) w_rg_537 (by decide) c4 b2).trans r2
    obtain ⟨w, h2, f, f1, d1, d2, d3, d4, d5, d6, d7, d8⟩ := im_ok 10 c2
    have hw : ∃ z : Int32, w = .int z := by
      obtain ⟨M, n, cc, hm, -, -, hret, -⟩ := d1
      have hm : xm_X7_image = M := Option.some.inj hm
      subst hm
      obtain ⟨rr, -, -, ⟨-, z, ty, -, hv, -⟩ | ⟨-, z, -, hv, hty⟩ | ⟨-, z, nn, -, hv, -, hty⟩ | ⟨-, -, hv, -⟩⟩ := hret
      · exact ⟨z, Option.some.inj hv⟩
      · cases hty
      · cases hty
      · cases hv
    obtain ⟨z, rfl⟩ := hw
    have e2 := XCall.ext _ _ _ _ _ _ d1 (by rw [c2.1]; decide) 1 (by decide)
    have g1 : h2.2.2 537 = .inr (.inl (0, 490, f)) := (d6 537 (by decide) (by decide)).trans d3
    have p1 := pinv_to (by decide) w_rg_537 d3 c3
    refine ⟨v, z, h1, h2, by rw [← a1]; exact XCall.up a9 c1, c2, e1, d1, d2, pinv_of (p := 537) (by decide) w_rg_537 rfl g1 p1, pinv_of (p := 538) (by decide) w_rg_538 rfl d4 (prs_eq d5 p1), ⟨y2, y2, 1, hr, hr, ?_, ?_, ?_, ?_, ?_, d8⟩, e2.trans (e1.trans hsc)⟩
    · exact (rd_same (d6 14 (by decide) (by decide)) 11).trans f14
    · exact (rd_same (d6 537 (by decide) (by decide)) 3).trans f537
    · exact (rd_same (d6 42 (by decide) (by decide)) 11).trans k4
    · rw [rd_row d4 (by decide), d5 3 (by decide), ← rd_row d3 (by decide)]
      exact f537
    · exact (rd_same (d6 13 (by decide) (by decide)) 2).trans k1
  · cases k
theorem J_undo {L : Nat} {xs : Nat → Int32} {h : XH} (hI : INV L xs h) : ∃ (v w : Int32) (h1 h2 : XH), XCall xM 11 87 [.ref 13] h (some (.int v)) h1 ∧ AInv w_W h1 ∧ h1.2.2 1 = h.2.2 1 ∧ XCall xM 11 181 [.ref 536] h1 (some (.int w)) h2 ∧ INV L xs h2 := by
  obtain ⟨i1, i2, i3, ⟨r, q, x, hr, hq, r1, r2, r3, r4, r5, r6⟩, hsc⟩ := hI
  have hx01 : 0 ≤ x.toInt ∧ x.toInt ≤ 1 := by
    obtain ⟨fs, g1, -, -, -⟩ := w_mod i1
    obtain ⟨y, hy, y1, y2⟩ := w_has i1 g1
    have e : rd h 536 3 = some (.int y) := by unfold rd; rw [g1]; exact hy
    rw [r6] at e
    cases e
    exact ⟨y1, y2⟩
  rcases i32_01 hx01.1 hx01.2 with rfl | rfl
  · obtain ⟨v, h1, c1, c2, c3, c4, o, ho, o1, o2, -⟩ := unc0_h.2 [.ref 13] h i1 i2 (gal13 gal0) (gm_one (n := 0) rfl (by decide) w_rg_13 r5 rfl)
    obtain ⟨v, rfl⟩ := aints_ok (l := unc0.1.2.2.1) rfl ho o1
    have e1 := XCall.ext _ _ _ _ _ _ c1 (by rw [i1.1]; decide) 1 (by decide)
    have hI1 : INV L xs h1 := inv_fr ⟨i1, i2, i3, ⟨r, q, 0, hr, hq, r1, r2, r3, r4, r5, r6⟩, hsc⟩ c2 c3 c4 rfl e1
    obtain ⟨-, -, -, ⟨r', q', x', -, -, -, -, -, -, s5, s6⟩, -⟩ := id hI1
    have hx' : rd h1 536 3 = some (.int 0) := (rdF (b := 3) w_rg_536 (by decide) c4 rfl).trans r6
    rcases un_ok 10 c2 with ⟨g1, g2⟩ | ⟨w, h2, f, f1, -, -, g3, -⟩
    · exact ⟨v, _, h1, h1, XCall.up (by decide) c1, c2, e1, g2, hI1⟩
    · rw [hx'] at g3
      cases g3
  · obtain ⟨n1, n2⟩ := nat_of hq
    have k := List.all_eq_true.mp un_chk _ (List.mem_range.mpr n1)
    split at k
    · rename_i c ec
      have hc := uncs_h c (List.mem_of_getElem? ec)
      obtain ⟨n0, c⟩ := c
      dsimp only at k hc
      unfold unok at k
      simp only [Bool.and_eq_true, decide_eq_true_eq, Bool.not_eq_true'] at k
      obtain ⟨a1, a3, a5, a7, a8, a9, b1, b2, b3, b4, b5⟩ := k
      have a1 := Nat.eq_of_beq_eq_true a1
      have b3 := w67 (ws := c.1.2.2.2.1) (by rw [b3]; rfl)
      obtain ⟨v, h1, c1, c2, c3, c4, o, ho, o1, o2, -⟩ := hc.2 [.ref 13] h i1 i2 (by rw [a3]; exact gal13 gal0) (by
        rw [a5]
        intro z hz
        rcases List.mem_cons.mp hz with rfl | hz
        · exact gm_one (n := 1) rfl (by decide) w_rg_13 r5 rfl _ (List.mem_singleton.mpr rfl)
        · exact gm_one rfl (by decide) w_rg_42 r3 n2 z hz)
      obtain ⟨v, rfl⟩ := aints_ok a7 ho o1
      have e1 := XCall.ext _ _ _ _ _ _ c1 (by rw [i1.1]; decide) 1 (by decide)
      have hmm := List.all_eq_true.mp a8 o ho
      simp only [decide_eq_true_eq] at hmm
      obtain ⟨y2, k4, k5, k6⟩ := gm_get (k := 14) (b := 11) (by decide) w_rg_14 o2 hmm
      have hy2 : y2 = q := w_of k5 k6 n2
      subst hy2
      have f42 := (rdF (b := 11) w_rg_42 (by decide) c4 b1).trans r3
      have f538 : rd h1 538 3 = some (.int y2) := (c4 538 3 (by decide) fun w hw hc => b3 w hw (hc.1.trans ((w_W1 538).trans w_rg_538))).trans r4
      have f13 := (rdF (b := 2) w_rg_13 (by decide) c4 b4).trans r5
      have f536 := (rdF (b := 3) w_rg_536 (by decide) c4 b5).trans r6
      have p2 : PInv w_W (67, w_P.2) h1 [] := PInv.out (P := (67, w_P.2)) c4 b3 i3
      rcases un_ok 10 c2 with ⟨g1, g2⟩ | ⟨w, h2, f, f1, d1, d2, d0, d3, d4, d5, d6⟩
      · rw [f536] at g1
        cases g1
      · have hw : ∃ z : Int32, w = .int z := by
          obtain ⟨M, n, cc, hm, -, -, hret, -⟩ := d1
          have hm : xm_X7_undo = M := Option.some.inj hm
          subst hm
          obtain ⟨rr, -, -, ⟨-, z, ty, -, hv, -⟩ | ⟨-, z, -, hv, hty⟩ | ⟨-, z, nn, -, hv, -, hty⟩ | ⟨-, -, hv, -⟩⟩ := hret
          · exact ⟨z, Option.some.inj hv⟩
          · cases hty
          · cases hty
          · cases hv
        obtain ⟨z, rfl⟩ := hw
        have e2 := XCall.ext _ _ _ _ _ _ d1 (by rw [c2.1]; decide) 1 (by decide)
        have g1 : h2.2.2 538 = .inr (.inl (0, 490, f)) := (d6 538 (by decide)).trans d3
        have p1 := pinv_to (by decide) w_rg_538 d3 p2
        refine ⟨v, z, h1, h2, by rw [← a1]; exact XCall.up a9 c1, c2, e1, d1, d2, pinv_of (p := 537) (by decide) w_rg_537 rfl d4 (prs_eq d5 p1), pinv_of (p := 538) (by decide) w_rg_538 rfl g1 p1, ⟨y2, y2, 1, hq, hq, ?_, ?_, ?_, ?_, ?_, ?_⟩, e2.trans (e1.trans hsc)⟩
        · exact (rd_same (d6 14 (by decide)) 11).trans k4
        · rw [rd_row d4 (by decide), d5 3 (by decide), ← rd_row d3 (by decide)]
          exact f538
        · exact (rd_same (d6 42 (by decide)) 11).trans f42
        · exact (rd_same (d6 538 (by decide)) 3).trans f538
        · exact (rd_same (d6 13 (by decide)) 2).trans f13
        · exact (rd_same (d6 536 (by decide)) 3).trans f536
    · cases k
