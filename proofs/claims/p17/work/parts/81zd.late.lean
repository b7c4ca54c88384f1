/-! late on both sides -/
/-- a clause is late in a course -/
abbrev laB (f : Nat → Int32) (n m g nc : Nat) (x : Int32) (c : Nat) (k : Nat) : Bool := ltB f n m (nI k) g nc x c
/-- what late answers for a clause that is there -/
def laS (f : Nat → Int32) (n m g nc : Nat) (x : Int32) (c : Nat) (w : Int32) : Int32 := if w = Int32.ofInt 1 then fwS (laB f n m g nc x c) (2 ^ m) else if fwS (laB f n m g nc x c) (2 ^ m) = m5 then Int32.ofInt 0 else Int32.ofInt 1
theorem lg_cmp0 {x y : Int64} : lg_cmp x y = 0 ↔ x = y := by
  unfold lg_cmp
  constructor
  · intro h
    split at h
    · exact absurd h (by decide)
    · split at h
      · assumption
      · exact absurd h (by decide)
  · intro h
    subst h
    rw [if_neg Int64.lt_irrefl, if_pos rfl]
section LA
variable {L : Nat} {xs : Nat → Int32} {f : Nat → Int32} {n m : Nat} {g nc : Nat} {Lt Nt : Nat → Int32}
abbrev colL (cl x : Int32) (p : Nat) (lo : Int64) (k : Int32) (l7 l8 : Option Value) : XL := [some (.ref 13), some (.ref p), some (.int cl), some (.int x), some (.long lo), none, some (.int k), l7, l8]
set_option maxRecDepth 100000 in
theorem col_c (W : RW f n m) (hg : g < 6) (hnc : 1 ≤ nc ∧ nc ≤ 6) (hC : CI f g Lt Nt nc) (x : Int32) {c : Nat} (hc : c < 6) : ∀ (q k : Nat) (h : XH) (l7 l8 : Option Value), k + q = 2 ^ m → INVg L xs h → h.2.2 537 = .inr (.inl (0, 490, f)) → CG h (24 + 3 * g) (nI nc) Lt Nt → ∃ h1 : XH, XGo 6 xm_X6_coursesOfLate (6, colL (nI c) x (24 + 3 * g) (lsB (laB f n m g nc x c) k) (nI k) l7 l8, [], h) (some (.long (lsB (laB f n m g nc x c) (2 ^ m)))) h1 ∧ INVg L xs h1 ∧ h1.2.2 537 = h.2.2 537
  | 0, k, h, l7, l8, hk, hI, hf, hG => by
    have hk : k = 2 ^ m := by omega
    subst hk
    obtain ⟨fs, h13, -, -, -⟩ := w_lg hI.1.1
    have hN : h.1 = 549 := hI.1.1.1
    have h3 := rd3_of hI hf W
    have e := (shm_nI ⟨m, by have := W.m6; omega⟩).1
    dsimp only at e
    refine ⟨h, ?_, hI, rfl⟩
    refine XGo.go 2 rfl ?_
    refine XGo.call _ rfl xm_X6_coursesThereAre rfl rfl [.ref 13] [.int (nI (2 ^ m))] rfl rfl (fun _ => ⟨13, fs, rfl, h13, by decide, by omega⟩) (Nat.le_of_ble_eq_true rfl) (k_many 5 hI.1.1 h3) ?_
    rw [e]
    refine XGo.go 1 rfl ?_
    refine XGo.ifp (Int32.le_refl _) ?_
    refine XGo.go 1 rfl ?_
    exact XGo.lret _ rfl rfl rfl
  | q + 1, k, h, l7, l8, hk, hI, hf, hG => by
    obtain ⟨fs, h13, -, -, -⟩ := w_lg hI.1.1
    have hN : h.1 = 549 := hI.1.1.1
    have h3 := rd3_of hI hf W
    obtain ⟨e, e64⟩ := shm_nI ⟨m, by have := W.m6; omega⟩
    dsimp only at e e64
    have tk := nI_toInt (n := k) (by omega)
    obtain ⟨⟨r1, -, -⟩, -⟩ := w_rg_g ⟨g, hg⟩
    obtain ⟨k', h1, hk', cC, hI1, oC, hL⟩ := G_course hI hf W (co := nI k) (by omega) (by omega)
    have hN1 : h1.1 = 549 := hI1.1.1.1
    have hf1 : h1.2.2 537 = .inr (.inl (0, 490, f)) := (oC 537 (by omega)).trans hf
    have hG1 : CG h1 (24 + 3 * g) (nI nc) Lt Nt := ⟨(oC _ (by omega)).trans hG.1, (oC _ (by omega)).trans hG.2.1, (oC _ (by omega)).trans hG.2.2⟩
    have r8 : rd h1 (88 + 7 * k') 8 = some (.int (ldS f n m (nI k))) := by
      have r := hL.2.2.2.1.2
      rw [vw_co0 hk'] at r
      exact r
    have head : ∀ {v : Option Value} {hend : XH}, XGo 6 xm_X6_coursesOfLate (if i40 ≤ ldS f n m (nI k) + x then 78 else 39, colL (nI c) x (24 + 3 * g) (lsB (laB f n m g nc x c) k) (nI k) (some (.ref (88 + 7 * k'))) (some (.int (ldS f n m (nI k) + x))), [], h1) v hend → XGo 6 xm_X6_coursesOfLate (6, colL (nI c) x (24 + 3 * g) (lsB (laB f n m g nc x c) k) (nI k) l7 l8, [], h) v hend := fun {v hend} t => by
      refine XGo.go 2 rfl ?_
      refine XGo.call _ rfl xm_X6_coursesThereAre rfl rfl [.ref 13] [.int (nI k)] rfl rfl (fun _ => ⟨13, fs, rfl, h13, by decide, by omega⟩) (Nat.le_of_ble_eq_true rfl) (k_many 5 hI.1.1 h3) ?_
      rw [e]
      refine XGo.go 1 rfl ?_
      refine XGo.ifn (fun z => absurd ((xnI_ge (m := 2 ^ m) (by omega) (by omega)).mp z) (by omega)) ?_
      refine XGo.go 2 rfl ?_
      refine XGo.call _ rfl xm_X6_courseOf rfl rfl [.ref 13, .int (nI k)] [] rfl rfl (fun _ => ⟨13, fs, rfl, h13, by decide, by omega⟩) (Nat.le_of_ble_eq_true rfl) (XCall.up (by decide) cC) ?_
      refine XGo.go 2 rfl ?_
      refine XGo.getr rfl hI1.1.1 (by omega) (by omega) (w_rg_co0 hk') k58s (by decide) r8 ?_
      exact XGo.go 6 rfl t
    by_cases b : i40 ≤ ldS f n m (nI k) + x
    · have eP : laB f n m g nc x c k = false := by
        show ltB f n m (nI k) g nc x c = false
        unfold ltB
        rw [decide_eq_true b]
        rfl
      obtain ⟨h2, c2, hI2, o2⟩ := col_c W hg hnc hC x hc q (k + 1) h1 (some (.ref (88 + 7 * k'))) (some (.int (ldS f n m (nI k) + x))) (by omega) hI1 hf1 hG1
      rw [lsB_f (P := laB f n m g nc x c) (k := k) eP] at c2
      unfold colL at c2
      rw [← show nI k + Int32.ofInt 1 = nI (k + 1) from nI_1 k] at c2
      exact ⟨h2, head (XGo.ifp b (XGo.go 2 rfl c2)), hI2, o2.trans (oC 537 (by omega))⟩
    · obtain ⟨h2, cR, hI2, R⟩ := G_runa h_118 rfl rfl rfl (by decide +kernel) (by decide +kernel) hI1 hk' W hL hG1 (by omega) (by omega) r1 hnc hC
      obtain ⟨c0, r0, b0, hv0, o71⟩ := R.o
      obtain ⟨bg, o74, hbg⟩ := R.bg
      have hN2 : h2.1 = 549 := hI2.1.1.1
      have hf2 : h2.2.2 537 = .inr (.inl (0, 490, f)) := (R.oth 537 (by omega)).trans hf1
      have hG2 : CG h2 (24 + 3 * g) (nI nc) Lt Nt := ⟨(R.oth _ (by omega)).trans hG1.1, (R.oth _ (by omega)).trans hG1.2.1, (R.oth _ (by omega)).trans hG1.2.2⟩
      obtain ⟨c7, r7, b7, v7, ho7, cl7, bg7, h71, -⟩ := run_ofa hI1.1.1
      obtain ⟨h3', c3, hI3, o3⟩ := col_c W hg hnc hC x hc q (k + 1) h2 (some (.ref (88 + 7 * k'))) (some (.int (ldS f n m (nI k) + x))) (by omega) hI2 hf2 hG2
      have pre : ∀ {v : Option Value} {hend : XH}, XGo 6 xm_X6_coursesOfLate (if bg c ≤ ldS f n m (nI k) + x then 74 else 67, colL (nI c) x (24 + 3 * g) (lsB (laB f n m g nc x c) k) (nI k) (some (.ref (88 + 7 * k'))) (some (.int (ldS f n m (nI k) + x))), [.long (lsB (laB f n m g nc x c) k)], h2) v hend → XGo 6 xm_X6_coursesOfLate (6, colL (nI c) x (24 + 3 * g) (lsB (laB f n m g nc x c) k) (nI k) l7 l8, [], h) v hend := fun {v hend} t => by
        refine head (XGo.ifn b ?_)
        refine XGo.go 1 rfl ?_
        refine XGo.getr rfl hI1.1.1 (by decide) (by decide) w_rg_13 k13s (by decide) (r13_4 hI1.1.1) ?_
        refine XGo.go 2 rfl ?_
        refine XGo.call _ rfl xm_X4_go rfl rfl [.ref 71, .ref (24 + 3 * g), .ref (88 + 7 * k')] [] rfl rfl (fun _ => ⟨71, _, rfl, h71, by decide, by omega⟩) (Nat.le_of_ble_eq_true rfl) cR ?_
        refine XGo.go 2 rfl ?_
        refine XGo.getr rfl hI2.1.1 (by decide) (by decide) w_rg_13 k13s (by decide) (r13_4 hI2.1.1) ?_
        refine XGo.getf rfl (xfd_o o71 (xlt hN2 (by decide)) (by decide) rfl) ?_
        refine XGo.go 1 rfl ?_
        refine XGo.call _ rfl xm_X6_at rfl rfl [.ref 74, .int (nI c)] [.long (lsB (laB f n m g nc x c) k)] rfl rfl (fun z => absurd rfl z) (Nat.le_of_ble_eq_true rfl) (at_row (H := h2) (d := 5) o74 (xlt hN2 (by decide)) (by decide) hc) ?_
        exact XGo.go 2 rfl t
      have eB : laB f n m g nc x c k = decide (ldS f n m (nI k) + x < bg c) := by
        show (!decide _ && decide _) = decide (ldS f n m (nI k) + x < bg c)
        rw [decide_eq_false b, hbg c hc, Bool.not_false, Bool.true_and]
      have c3a := c3
      by_cases b2 : bg c ≤ ldS f n m (nI k) + x
      · rw [lsB_f (P := laB f n m g nc x c) (k := k) (eB.trans (decide_eq_false (Int32.not_lt.mpr b2)))] at c3
        unfold colL at c3
        rw [← show nI k + Int32.ofInt 1 = nI (k + 1) from nI_1 k, ← show lsB (laB f n m g nc x c) k ||| Int64.ofNat 0 = lsB (laB f n m g nc x c) k from Int64.or_zero] at c3
        refine ⟨h3', pre (XGo.ifp b2 ?_), hI3, o3.trans ((R.oth 537 (by omega)).trans (oC 537 (by omega)))⟩
        exact XGo.go 5 rfl c3
      · rw [lsB_t (P := laB f n m g nc x c) (k := k) (eB.trans (decide_eq_true (Int32.not_le.mp b2)))] at c3
        unfold colL at c3
        rw [← show nI k + Int32.ofInt 1 = nI (k + 1) from nI_1 k] at c3
        refine ⟨h3', pre (XGo.ifn b2 ?_), hI3, o3.trans ((R.oth 537 (by omega)).trans (oC 537 (by omega)))⟩
        exact XGo.go 8 rfl c3
  termination_by q => q
/-- the courses in which a clause is late, as the class counts them -/
theorem G_col (W : RW f n m) (hg : g < 6) (hnc : 1 ≤ nc ∧ nc ≤ 6) (hC : CI f g Lt Nt nc) (x : Int32) {c : Nat} (hc : c < 6) {h : XH} (hI : INVg L xs h) (hf : h.2.2 537 = .inr (.inl (0, 490, f))) (hG : CG h (24 + 3 * g) (nI nc) Lt Nt) : ∃ h1 : XH, XCall xM 7 100 [.ref 13, .ref (24 + 3 * g), .int (nI c), .int x] h (some (.long (lsB (laB f n m g nc x c) (2 ^ m)))) h1 ∧ INVg L xs h1 ∧ h1.2.2 537 = h.2.2 537 := by
  obtain ⟨h1, c1, q⟩ := col_c W hg hnc hC x hc (2 ^ m) 0 h none none (by omega) hI hf hG
  exact ⟨h1, XCall.of (M := xm_X6_coursesOfLate) rfl (Nat.le_of_ble_eq_true rfl) (XGo.go 4 rfl c1), q⟩
abbrev lsL (gr cl x a k : Int32) : XL := [some (.ref 536), some (.int gr), some (.int cl), some (.int x), some (.int a), some (.int k)]
set_option maxRecDepth 100000 in
theorem ls_m (W : RW f n m) (hg : g < 6) (hnc : 1 ≤ nc ∧ nc ≤ 6) (hfn : f (130 + g) = nI nc) (hC : CI f g Lt Nt nc) {x : Int32} (x0 : 0 ≤ x.toInt) (x1 : x.toInt ≤ 40) {c : Nat} (hc : c < 6) : ∀ (q k : Nat) (h : XH), k + q = 2 ^ m → MBk h f → ∃ h1 : XH, XGo 7 xm_X7_lateShown (7, lsL (nI g) (nI c) x (fwS (laB f n m g nc x c) k) (nI k), [], h) (some (.int (fwS (laB f n m g nc x c) (2 ^ m)))) h1 ∧ MBk h1 f ∧ ∀ z, z < 536 → h1.2.2 z = h.2.2 z
  | q, k, h, hk, hB => by
    obtain ⟨hN, hS, ⟨e, o36⟩, hf, -⟩ := id hB
    have e64 := (shm_nI ⟨m, by have := W.m6; omega⟩).2
    dsimp only at e64
    have head : ∀ {v : Option Value} {hend : XH}, XGo 7 xm_X7_lateShown (if nI (2 ^ m) ≤ nI k then 67 else 16, lsL (nI g) (nI c) x (fwS (laB f n m g nc x c) k) (nI k), [], h) v hend → XGo 7 xm_X7_lateShown (7, lsL (nI g) (nI c) x (fwS (laB f n m g nc x c) k) (nI k), [], h) v hend := fun {v hend} t => by
      refine XGo.go 2 rfl ?_
      refine XGo.call _ rfl xm_X7_courses rfl rfl [.ref 536] [.int (nI k)] rfl rfl (fun _ => ⟨536, _, rfl, o36, by decide, by omega⟩) (Nat.le_of_ble_eq_true rfl) (k_courses 6 W hN o36 hf) ?_
      exact XGo.go 1 rfl t
    match q, hk with
    | 0, hk =>
      have hk : k = 2 ^ m := by omega
      subst hk
      refine ⟨h, head (XGo.ifp (Int32.le_refl _) ?_), hB, fun _ _ => rfl⟩
      refine XGo.go 1 rfl ?_
      exact XGo.iret _ rfl rfl .int rfl rfl
    | q + 1, hk =>
      have k64 : k < 64 := by omega
      obtain ⟨h2, cC, hB2, ⟨s, lr, le⟩, -, -, ⟨bg, o45, ebg⟩, oth⟩ := M_goes hB W hg hnc hfn hC (nI k)
      obtain ⟨hN2, -, ⟨e2, o362⟩, hf2, -⟩ := id hB2
      obtain ⟨h4, c4, hB4, o4⟩ := ls_m W hg hnc hfn hC x0 x1 hc q (k + 1) h2 (by omega) hB2
      have eB : lateM (ldS f n m (nI k)) (bg c) x = laB f n m g nc x c k := by
        rw [ebg c hc]
        exact (ltB_eq W (nI k) g hnc.1 x0 x1 c).1
      have qL := k_isLate 5 W hN2 o362 hf2 lr le o45 hc x
      rw [eB] at qL
      refine ⟨h4, head (XGo.ifn (fun z => absurd ((xnI_ge (m := 2 ^ m) (by omega) (by omega)).mp z) (by omega)) ?_), hB4, fun z hz => (o4 z hz).trans (oth z (by omega) (by omega))⟩
      refine XGo.go 3 rfl ?_
      refine XGo.call _ rfl xm_X7_goes rfl rfl [.ref 536, .int (nI g), .int (nI k)] [] rfl rfl (fun _ => ⟨536, _, rfl, o36, by decide, by omega⟩) (Nat.le_of_ble_eq_true rfl) cC ?_
      refine XGo.go 3 rfl ?_
      refine XGo.call _ rfl xm_X7_isLate rfl rfl [.ref 536, .int (nI c), .int x] [] rfl rfl (fun _ => ⟨536, _, rfl, o362, by decide, by omega⟩) (Nat.le_of_ble_eq_true rfl) qL ?_
      refine XGo.go 1 rfl ?_
      cases eP : laB f n m g nc x c k
      · rw [fwS_f (P := laB f n m g nc x c) (k := k) eP] at c4
        unfold lsL at c4
        rw [← show nI k + Int32.ofInt 1 = nI (k + 1) from nI_1 k] at c4
        refine XGo.ifp (by decide) ?_
        exact XGo.go 4 rfl c4
      · unfold lsL at c4
        rw [← show nI k + Int32.ofInt 1 = nI (k + 1) from nI_1 k] at c4
        refine XGo.ifn (by decide) ?_
        refine XGo.go 3 rfl ?_
        by_cases f5 : fwS (laB f n m g nc x c) k = m5
        · refine XGo.ifp f5 ?_
          rw [show fwS (laB f n m g nc x c) (k + 1) = nI k from if_pos ⟨eP, Or.inl f5⟩] at c4
          exact XGo.go 5 rfl c4
        · refine XGo.ifn f5 ?_
          refine XGo.go 1 rfl ?_
          refine XGo.call _ rfl xm_X7_count1 rfl rfl [.int (nI k)] [] rfl rfl (fun z => absurd rfl z) (Nat.le_of_ble_eq_true rfl) (k_c1 6 h2 (nI k)) ?_
          refine XGo.go 1 rfl ?_
          refine XGo.call _ rfl xm_X7_count1 rfl rfl [.int (fwS (laB f n m g nc x c) k)] [.int (c1S (nI k) 14)] rfl rfl (fun z => absurd rfl z) (Nat.le_of_ble_eq_true rfl) (k_c1 6 h2 (fwS (laB f n m g nc x c) k)) ?_
          refine XGo.go 1 rfl ?_
          by_cases cc : c1S (fwS (laB f n m g nc x c) k) 14 ≤ c1S (nI k) 14
          · refine XGo.ifp cc ?_
            rw [show fwS (laB f n m g nc x c) (k + 1) = fwS (laB f n m g nc x c) k from if_neg fun z => (z.2.elim (fun w => f5 w) fun w => absurd cc (Int32.not_le.mpr w))] at c4
            exact XGo.go 4 rfl c4
          · refine XGo.ifn cc ?_
            rw [show fwS (laB f n m g nc x c) (k + 1) = nI k from if_pos ⟨eP, Or.inr (Int32.not_le.mp cc)⟩] at c4
            exact XGo.go 5 rfl c4
  termination_by q => q
theorem G_lsm (W : RW f n m) (hg : g < 6) (hnc : 1 ≤ nc ∧ nc ≤ 6) (hfn : f (130 + g) = nI nc) (hC : CI f g Lt Nt nc) {x : Int32} (x0 : 0 ≤ x.toInt) (x1 : x.toInt ≤ 40) {c : Nat} (hc : c < 6) {h : XH} (hB : MBk h f) : ∃ h1 : XH, XCall xM 8 157 [.ref 536, .int (nI g), .int (nI c), .int x] h (some (.int (fwS (laB f n m g nc x c) (2 ^ m)))) h1 ∧ MBk h1 f ∧ ∀ z, z < 536 → h1.2.2 z = h.2.2 z := by
  obtain ⟨h1, c1, q⟩ := ls_m W hg hnc hfn hC x0 x1 hc (2 ^ m) 0 h (by omega) hB
  exact ⟨h1, XCall.of (M := xm_X7_lateShown) rfl (Nat.le_of_ble_eq_true rfl) (XGo.go 4 rfl c1), q⟩
end LA
set_option maxRecDepth 100000 in
/-- LATE ON BOTH SIDES -/
theorem G_late (gr cl x w : Int32) {L : Nat} {xs : Nat → Int32} {h : XH} (hI : INVg L xs h) : ∃ (v : Int32) (h1 h2 : XH), XCall xM 11 75 [.ref 13, .int gr, .int cl, .int x, .int w] h (some (.int v)) h1 ∧ AInv w_W h1 ∧ h1.2.2 1 = h.2.2 1 ∧ XCall xM 11 158 [.ref 536, .int gr, .int cl, .int x, .int w] h1 (some (.int v)) h2 ∧ INVg L xs h2 := by
  obtain ⟨f, n, m, G, T, fw, hf, W, hH, hG, f2, h3, hg⟩ := G_ctx hI
  have hB := mbk_of hI.1.1 hf
  have hN := hH.N
  have e1 : (Int32.ofInt 1).toInt = 1 := by decide
  have e64 := (shm_nI ⟨m, by have := W.m6; omega⟩).2
  dsimp only at e64
  have ch : ∀ (d : Nat) {u : Value} {v : Option Value} {hend : XH}, XCall xM (d + 1) 58 [.ref 14, .int gr] h (some u) h → XGo (d + 1) xm_X6_late (8, [some (.ref 13), some (.int gr), some (.int cl), some (.int x), some (.int w), none, none, none], [u], h) v hend → XCall xM (d + 2) 75 [.ref 13, .int gr, .int cl, .int x, .int w] h v hend := fun d {u v hend} c58 k => by
    refine XCall.of (M := xm_X6_late) rfl (Nat.le_of_ble_eq_true rfl) ?_
    refine XGo.go 1 rfl ?_
    refine XGo.getr rfl hI.1.1 (by decide) (by decide) w_rg_13 k13s (by decide) (r13_0 hI.1.1) ?_
    refine XGo.go 1 rfl ?_
    exact XGo.call _ rfl xm_X5_grantAt rfl rfl [.ref 14, .int gr] [] rfl rfl (fun _ => ⟨14, _, rfl, hH.o14, by decide, by omega⟩) (Nat.le_of_ble_eq_true rfl) c58 k
  have mh : ∀ (d : Nat) {h1 : XH} {b : Int32} {v : Option Value} {hend : XH}, MBk h1 f → XCall xM (d + 3) 109 [.ref 536, .int gr, .int cl] h1 (some (.int b)) h1 → XGo (d + 3) xm_X7_late (6, [some (.ref 536), some (.int gr), some (.int cl), some (.int x), some (.int w), none], [.int b], h1) v hend → XCall xM (d + 4) 158 [.ref 536, .int gr, .int cl, .int x, .int w] h1 v hend := fun d {h1 b v hend} hB1 q k => by
    obtain ⟨hN1, -, ⟨e, o36⟩, hf1, -⟩ := id hB1
    refine XCall.of (M := xm_X7_late) rfl (Nat.le_of_ble_eq_true rfl) ?_
    refine XGo.go 3 rfl ?_
    exact XGo.call _ rfl xm_X7_isClause rfl rfl [.ref 536, .int gr, .int cl] [] rfl rfl (fun _ => ⟨536, _, rfl, o36, by decide, by omega⟩) (Nat.le_of_ble_eq_true rfl) q k
  have mbad : ∀ (d : Nat) (h1 : XH), XGo d xm_X7_late (19, [some (.ref 536), some (.int gr), some (.int cl), some (.int x), some (.int w), none], [], h1) (some (.int m1)) h1 := fun d h1 => by
    refine XGo.go 1 rfl ?_
    exact XGo.iret _ rfl rfl .int rfl rfl
  rcases gr_dec hG gr with hb | ⟨g, hgG, rfl⟩
  · refine ⟨m1, h, h, XCall.up (by decide) (ch 0 (k_gNo 0 hH hG hb) ?_), hI.1.1, rfl, XCall.up (by decide) (mh 0 hB (k_isCl7n 0 hB hG f2 hb cl) ?_), hI⟩
    · refine XGo.go 4 rfl ?_
      exact XGo.iret _ rfl rfl .int rfl rfl
    · refine XGo.go 1 rfl ?_
      exact XGo.ifp (by decide) (mbad _ _)
  · obtain ⟨nc, Lt, Nt, hnc, hCG, hfn, hC⟩ := hg g hgG
    have cbad : XGo 7 xm_X6_late (35, [some (.ref 13), some (.int (nI g)), some (.int cl), some (.int x), some (.int w), some (.ref (24 + 3 * g)), none, none], [], h) (some (.int m1)) h := by
      refine XGo.go 1 rfl ?_
      exact XGo.iret _ rfl rfl .int rfl rfl
    have ch2 : ∀ {v : Option Value} {hend : XH}, XGo 7 xm_X6_late (21, [some (.ref 13), some (.int (nI g)), some (.int cl), some (.int x), some (.int w), some (.ref (24 + 3 * g)), none, none], [.int (if isCl nc cl then 1 else 0)], h) v hend → XCall xM 8 75 [.ref 13, .int (nI g), .int cl, .int x, .int w] h v hend := fun {v hend} k => by
      refine ch 6 (k_gAt 6 hH hgG hG) ?_
      refine XGo.go 5 rfl ?_
      exact XGo.call _ rfl xm_X1_hasClause rfl rfl [.ref (24 + 3 * g), .int cl] [] rfl rfl (fun _ => ⟨24 + 3 * g, _, rfl, hCG.1, by omega, by omega⟩) (Nat.le_of_ble_eq_true rfl) (k_hasC 6 hN hCG (by omega) hnc.2 cl) k
    have mh2 : ∀ {h1 : XH} {v : Option Value} {hend : XH}, MBk h1 f → XGo 8 xm_X7_late (6, [some (.ref 536), some (.int (nI g)), some (.int cl), some (.int x), some (.int w), none], [.int (if isCl nc cl then 1 else 0)], h1) v hend → XCall xM 9 158 [.ref 536, .int (nI g), .int cl, .int x, .int w] h1 v hend := fun {h1 v hend} hB1 k => mh 5 hB1 (k_isCl7 5 hB1 hG f2 hgG hnc hfn cl) k
    by_cases hl : isCl nc cl
    · have mh3 : ∀ {h1 : XH} {v : Option Value} {hend : XH}, MBk h1 f → XGo 8 xm_X7_late (16, [some (.ref 536), some (.int (nI g)), some (.int cl), some (.int x), some (.int w), none], [.int (if 0 ≤ w.toInt ∧ w.toInt ≤ 1 then 1 else 0)], h1) v hend → XCall xM 9 158 [.ref 536, .int (nI g), .int cl, .int x, .int w] h1 v hend := fun {h1 v hend} hB1 k => by
        refine mh2 hB1 ?_
        rw [if_pos hl]
        refine XGo.go 1 rfl ?_
        refine XGo.ifn (by decide) ?_
        refine XGo.go 3 rfl ?_
        exact XGo.call _ rfl xm_X7_in rfl rfl [.int w, .int (Int32.ofInt 0), .int (Int32.ofInt 1)] [] rfl rfl (fun z => absurd rfl z) (Nat.le_of_ble_eq_true rfl) (k_in01 7 h1 w) k
      have ch3 : ∀ {v : Option Value} {hend : XH}, XGo 7 xm_X6_late (if w < 0 then 35 else 29, [some (.ref 13), some (.int (nI g)), some (.int cl), some (.int x), some (.int w), some (.ref (24 + 3 * g)), none, none], [], h) v hend → XCall xM 8 75 [.ref 13, .int (nI g), .int cl, .int x, .int w] h v hend := fun {v hend} k => by
        refine ch2 ?_
        rw [if_pos hl]
        refine XGo.go 1 rfl ?_
        refine XGo.ifn (by decide) ?_
        exact XGo.go 2 rfl k
      by_cases hw : 0 ≤ w.toInt ∧ w.toInt ≤ 1
      · have ch4 : ∀ {v : Option Value} {hend : XH}, XGo 7 xm_X6_late (41, [some (.ref 13), some (.int (nI g)), some (.int cl), some (.int x), some (.int w), some (.ref (24 + 3 * g)), none, none], [.int (if 0 ≤ x.toInt ∧ x.toInt ≤ 40 then 1 else 0)], h) v hend → XCall xM 8 75 [.ref 13, .int (nI g), .int cl, .int x, .int w] h v hend := fun {v hend} k => by
          refine ch3 (XGo.ifn (fun q => by have := lt0_iff.mp q; omega) ?_)
          refine XGo.go 3 rfl ?_
          refine XGo.ifp (Int32.le_iff_toInt_le.mpr (by rw [e1]; exact hw.2)) ?_
          refine XGo.go 1 rfl ?_
          exact XGo.call _ rfl xm_X6_isYear rfl rfl [.int x] [] rfl rfl (fun z => absurd rfl z) (Nat.le_of_ble_eq_true rfl) (k_isYear 6 h x) k
        have mh4 : ∀ {h1 : XH} {v : Option Value} {hend : XH}, MBk h1 f → XGo 8 xm_X7_late (28, [some (.ref 536), some (.int (nI g)), some (.int cl), some (.int x), some (.int w), none], [.int (if 0 ≤ x.toInt ∧ x.toInt ≤ 40 then 1 else 0)], h1) v hend → XCall xM 9 158 [.ref 536, .int (nI g), .int cl, .int x, .int w] h1 v hend := fun {h1 v hend} hB1 k => by
          refine mh3 hB1 ?_
          rw [if_pos hw]
          refine XGo.go 1 rfl ?_
          refine XGo.ifn (by decide) ?_
          refine XGo.go 3 rfl ?_
          exact XGo.call _ rfl xm_X7_in rfl rfl [.int x, .int (Int32.ofInt 0), .int i40] [] rfl rfl (fun z => absurd rfl z) (Nat.le_of_ble_eq_true rfl) (k_in40 7 h1 x) k
        by_cases hx : 0 ≤ x.toInt ∧ x.toInt ≤ 40
        · obtain ⟨yn, y5⟩ := i32_nI (x := cl) (hi := 5) hl.1 (by have := hl.2; omega)
          obtain ⟨c, yl, rfl⟩ : ∃ c : Nat, c < 6 ∧ cl = nI c := ⟨cl.toNatClampNeg, by omega, yn⟩
          obtain ⟨h1, c1, hI1, o1⟩ := G_col W (show g < 6 by omega) hnc hC x yl hI hf hCG
          have hf1 := o1.trans hf
          have hB1 := mbk_of hI1.1.1 hf1
          obtain ⟨h2, c2, hB2, o2⟩ := G_lsm W (show g < 6 by omega) hnc hfn hC hx.1 hx.2 yl hB1
          obtain ⟨fs, h13, -, -, -⟩ := w_lg hI.1.1
          obtain ⟨-, -, ⟨ee, o36⟩, -, -⟩ := id hB1
          obtain ⟨-, -, -, hf2, -⟩ := id hB2
          have hN1 : h1.1 = 549 := hI1.1.1.1
          have c1 : XCall xM 8 75 [.ref 13, .int (nI g), .int (nI c), .int x, .int w] h (some (.int (laS f n m g nc x c w))) h1 := ch4 (by
            rw [if_pos hx]
            refine XGo.go 1 rfl ?_
            refine XGo.ifn (by decide) ?_
            refine XGo.go 4 rfl ?_
            refine XGo.call _ rfl xm_X6_coursesOfLate rfl rfl [.ref 13, .ref (24 + 3 * g), .int (nI c), .int x] [] rfl rfl (fun _ => ⟨13, fs, rfl, h13, by decide, by omega⟩) (Nat.le_of_ble_eq_true rfl) c1 ?_
            refine XGo.go 4 rfl ?_
            by_cases w1 : w = Int32.ofInt 1
            · rw [show laS f n m g nc x c w = fwS (laB f n m g nc x c) (2 ^ m) from if_pos w1]
              refine XGo.ifp w1 ?_
              refine XGo.go 1 rfl ?_
              refine XGo.call _ rfl xm_X6_fewest rfl rfl [.long (lsB (laB f n m g nc x c) (2 ^ m))] [] rfl rfl (fun z => absurd rfl z) (Nat.le_of_ble_eq_true rfl) (k_fewest 5 _ e64) ?_
              exact XGo.iret _ rfl rfl .int rfl rfl
            · refine XGo.ifn w1 ?_
              refine XGo.go 4 rfl ?_
              by_cases z : fwS (laB f n m g nc x c) (2 ^ m) = m5
              · rw [show laS f n m g nc x c w = Int32.ofInt 0 from (if_neg w1).trans (if_pos z)]
                refine XGo.ifp (lg_cmp0.mpr ((lsB_0 e64).mpr ((fwS_5 _ e64).mp z))) ?_
                refine XGo.go 2 rfl ?_
                exact XGo.iret _ rfl rfl .int rfl rfl
              · rw [show laS f n m g nc x c w = Int32.ofInt 1 from (if_neg w1).trans (if_neg z)]
                refine XGo.ifn (fun q => z ((fwS_5 _ e64).mpr ((lsB_0 e64).mp (lg_cmp0.mp q)))) ?_
                refine XGo.go 1 rfl ?_
                exact XGo.iret _ rfl rfl .int rfl rfl)
          have c2 : XCall xM 9 158 [.ref 536, .int (nI g), .int (nI c), .int x, .int w] h1 (some (.int (laS f n m g nc x c w))) h2 := mh4 hB1 (by
            rw [if_pos hx]
            refine XGo.go 1 rfl ?_
            refine XGo.ifn (by decide) ?_
            refine XGo.go 4 rfl ?_
            refine XGo.call _ rfl xm_X7_lateShown rfl rfl [.ref 536, .int (nI g), .int (nI c), .int x] [] rfl rfl (fun _ => ⟨536, _, rfl, o36, by decide, by omega⟩) (Nat.le_of_ble_eq_true rfl) c2 ?_
            refine XGo.go 4 rfl ?_
            by_cases w1 : w = Int32.ofInt 1
            · rw [show laS f n m g nc x c w = fwS (laB f n m g nc x c) (2 ^ m) from if_pos w1]
              refine XGo.ifp w1 ?_
              refine XGo.go 2 rfl ?_
              exact XGo.iret _ rfl rfl .int rfl rfl
            · refine XGo.ifn w1 ?_
              refine XGo.go 3 rfl ?_
              by_cases z : fwS (laB f n m g nc x c) (2 ^ m) = m5
              · rw [show laS f n m g nc x c w = Int32.ofInt 0 from (if_neg w1).trans (if_pos z)]
                refine XGo.ifp z ?_
                refine XGo.go 2 rfl ?_
                exact XGo.iret _ rfl rfl .int rfl rfl
              · rw [show laS f n m g nc x c w = Int32.ofInt 1 from (if_neg w1).trans (if_neg z)]
                refine XGo.ifn z ?_
                refine XGo.go 1 rfl ?_
                exact XGo.iret _ rfl rfl .int rfl rfl)
          refine ⟨_, h1, h2, XCall.up (by decide) c1, hI1.1.1, XCall.ext _ _ _ _ _ _ c1 (by rw [hI.1.1.1]; decide) 1 (by decide), XCall.up (by decide) c2, ?_⟩
          exact G_fin h_944 (by decide +kernel) rfl (by decide +kernel) (by decide +kernel) (by decide +kernel) (gal536 (galT _ (galT _ (galT x (galT w gal0))))) hI1 c2 hf1 hf2 o2
        · refine ⟨i2m, h, h, XCall.up (e := 11) (by decide) (ch4 ?_), hI.1.1, rfl, XCall.up (by decide) (mh4 hB ?_), hI⟩
          · rw [if_neg hx]
            refine XGo.go 1 rfl ?_
            refine XGo.ifp (by decide) ?_
            refine XGo.go 1 rfl ?_
            exact XGo.iret _ rfl rfl .int rfl rfl
          · rw [if_neg hx]
            refine XGo.go 1 rfl ?_
            refine XGo.ifp (by decide) ?_
            refine XGo.go 1 rfl ?_
            exact XGo.iret _ rfl rfl .int rfl rfl
      · refine ⟨m1, h, h, XCall.up (e := 11) (by decide) (ch3 ?_), hI.1.1, rfl, XCall.up (by decide) (mh3 hB ?_), hI⟩
        · by_cases w0 : w < 0
          · exact XGo.ifp w0 cbad
          · have e0 : ¬ w.toInt < 0 := fun q => w0 (lt0_iff.mpr q)
            refine XGo.ifn w0 ?_
            refine XGo.go 3 rfl ?_
            exact XGo.ifn (fun q => hw ⟨by omega, by have := Int32.le_iff_toInt_le.mp q; rw [e1] at this; exact this⟩) cbad
        · rw [if_neg hw]
          refine XGo.go 1 rfl ?_
          exact XGo.ifp (by decide) (mbad _ _)
    · refine ⟨m1, h, h, XCall.up (e := 11) (by decide) (ch2 ?_), hI.1.1, rfl, XCall.up (by decide) (mh2 hB ?_), hI⟩
      · rw [if_neg hl]
        refine XGo.go 1 rfl ?_
        exact XGo.ifp (by decide) cbad
      · rw [if_neg hl]
        refine XGo.go 1 rfl ?_
        exact XGo.ifp (by decide) (mbad _ _)
