/-! sure on both sides -/
/-- a clause begins in a course -/
abbrev suB (f : Nat → Int32) (n m g nc c : Nat) (k : Nat) : Bool := !decide (bgX f n m (nI k) g nc c = m5)
def su0 (x y : Int32) : Int32 := if x = y then Int32.ofInt 2 else if x ≤ 0 then Int32.ofInt 0 else Int32.ofInt 1
/-- what sure answers for a clause that is there -/
def suS (f : Nat → Int32) (n m g nc c : Nat) (w : Int32) : Int32 := if w = Int32.ofInt 1 then fwS (suB f n m g nc c) (2 ^ m) else if w = Int32.ofInt 2 then nI (ctN (suB f n m g nc c) (2 ^ m)) else su0 (nI (ctN (suB f n m g nc c) (2 ^ m))) (nI (2 ^ m))
theorem k_in2 (d : Nat) (h : XH) (x : Int32) : XCall xM (d + 1) 107 [.int x, .int (Int32.ofInt 0), .int (Int32.ofInt 2)] h (some (.int (if 0 ≤ x.toInt ∧ x.toInt ≤ 2 then 1 else 0))) h := by
  have q := k_inI d h x (Int32.ofInt 0) (Int32.ofInt 2)
  rw [show (Int32.ofInt 0).toInt = 0 by decide, show (Int32.ofInt 2).toInt = 2 by decide] at q
  exact q
theorem in3_cases {w : Int32} (h : 0 ≤ w.toInt ∧ w.toInt ≤ 2) : w = Int32.ofInt 0 ∨ w = Int32.ofInt 1 ∨ w = Int32.ofInt 2 := by
  have e0 : (Int32.ofInt 0).toInt = 0 := by decide
  have e1 : (Int32.ofInt 1).toInt = 1 := by decide
  have e2 : (Int32.ofInt 2).toInt = 2 := by decide
  have t : w.toInt = 0 ∨ w.toInt = 1 ∨ w.toInt = 2 := by omega
  rcases t with t | t | t
  · exact Or.inl (Int32.toInt_inj.mp (by rw [t, e0]))
  · exact Or.inr (Or.inl (Int32.toInt_inj.mp (by rw [t, e1])))
  · exact Or.inr (Or.inr (Int32.toInt_inj.mp (by rw [t, e2])))
section SU
variable {L : Nat} {xs : Nat → Int32} {f : Nat → Int32} {n m : Nat} {g nc : Nat} {Lt Nt : Nat → Int32}
abbrev suL (gr cl w : Int32) (p : Nat) (lo : Int64) (k : Int32) : XL := [some (.ref 13), some (.int gr), some (.int cl), some (.int w), some (.ref p), some (.long lo), none, some (.int k)]
set_option maxRecDepth 100000 in
theorem su_c (W : RW f n m) (hg : g < 6) (hnc : 1 ≤ nc ∧ nc ≤ 6) (hC : CI f g Lt Nt nc) (gr w : Int32) {c : Nat} (hc : c < 6) {v : Option Value} (fin : ∀ h' : XH, INVg L xs h' → h'.2.2 537 = .inr (.inl (0, 490, f)) → XGo 7 xm_X6_sure (96, suL gr (nI c) w (24 + 3 * g) (lsB (suB f n m g nc c) (2 ^ m)) (nI (2 ^ m)), [], h') v h') : ∀ (q k : Nat) (h : XH), k + q = 2 ^ m → INVg L xs h → h.2.2 537 = .inr (.inl (0, 490, f)) → CG h (24 + 3 * g) (nI nc) Lt Nt → ∃ h1 : XH, XGo 7 xm_X6_sure (41, suL gr (nI c) w (24 + 3 * g) (lsB (suB f n m g nc c) k) (nI k), [], h) v h1 ∧ INVg L xs h1 ∧ h1.2.2 537 = h.2.2 537
  | q, k, h, hk, hI, hf, hCG => by
    have h3 := rd3_of hI hf W
    have hN : h.1 = 549 := hI.1.1.1
    obtain ⟨fs, h13, -, -, -⟩ := w_lg hI.1.1
    obtain ⟨e, e64⟩ := shm_nI ⟨m, by have := W.m6; omega⟩
    dsimp only at e e64
    have head : ∀ {v : Option Value} {hend : XH}, XGo 7 xm_X6_sure (if nI (2 ^ m) ≤ nI k then 96 else 50, suL gr (nI c) w (24 + 3 * g) (lsB (suB f n m g nc c) k) (nI k), [], h) v hend → XGo 7 xm_X6_sure (41, suL gr (nI c) w (24 + 3 * g) (lsB (suB f n m g nc c) k) (nI k), [], h) v hend := fun {v hend} t => by
      refine XGo.go 2 rfl ?_
      refine XGo.call _ rfl xm_X6_coursesThereAre rfl rfl [.ref 13] [.int (nI k)] rfl rfl (fun _ => ⟨13, fs, rfl, h13, by decide, by omega⟩) (Nat.le_of_ble_eq_true rfl) (k_many 6 hI.1.1 h3) ?_
      rw [e]
      exact XGo.go 1 rfl t
    match q, hk with
    | 0, hk =>
      have hk : k = 2 ^ m := by omega
      subst hk
      exact ⟨h, head (XGo.ifp (Int32.le_refl _) (fin h hI hf)), hI, rfl⟩
    | q + 1, hk =>
      have tk := nI_toInt (n := k) (by omega)
      obtain ⟨kk, h1, h2, cC, ⟨fs71, e71, l71⟩, cR, hI2, ⟨⟨_, _, _, _, o71⟩, -, -, ⟨bg, o74, ebg⟩⟩, oth⟩ := G_crun hI hf W hg hnc hCG hC (c := nI k) (by omega) (by omega)
      have hN2 : h2.1 = 549 := hI2.1.1.1
      have hf2 : h2.2.2 537 = .inr (.inl (0, 490, f)) := (oth 537 (by omega)).trans hf
      obtain ⟨h4, c4, hI4, o4⟩ := su_c W hg hnc hC gr w hc fin q (k + 1) h2 (by omega) hI2 hf2 ⟨(oth _ (by omega)).trans hCG.1, (oth _ (by omega)).trans hCG.2.1, (oth _ (by omega)).trans hCG.2.2⟩
      refine ⟨h4, head (XGo.ifn (fun z => absurd ((xnI_ge (m := 2 ^ m) (by omega) (by omega)).mp z) (by omega)) ?_), hI4, o4.trans (oth 537 (by omega))⟩
      refine XGo.go 1 rfl ?_
      refine XGo.getr rfl hI.1.1 (by decide) (by decide) w_rg_13 k13s (by decide) (r13_4 hI.1.1) ?_
      refine XGo.go 3 rfl ?_
      refine XGo.call _ rfl xm_X6_courseOf rfl rfl [.ref 13, .int (nI k)] [.ref (24 + 3 * g), .ref 71] rfl rfl (fun _ => ⟨13, fs, rfl, h13, by decide, by omega⟩) (Nat.le_of_ble_eq_true rfl) (XCall.up (by decide) cC) ?_
      refine XGo.call _ rfl xm_X4_go rfl rfl [.ref 71, .ref (24 + 3 * g), .ref (88 + 7 * kk)] [] rfl rfl (fun _ => ⟨71, _, rfl, e71, by decide, l71⟩) (Nat.le_of_ble_eq_true rfl) (XCall.up (by decide) cR) ?_
      refine XGo.go 1 rfl ?_
      refine XGo.getr rfl hI2.1.1 (by decide) (by decide) w_rg_13 k13s (by decide) (r13_4 hI2.1.1) ?_
      refine XGo.getf rfl (xfd_o o71 (xlt hN2 (by decide)) (by decide) rfl) ?_
      refine XGo.go 1 rfl ?_
      refine XGo.call _ rfl xm_X6_at rfl rfl [.ref 74, .int (nI c)] [] rfl rfl (fun z => absurd rfl z) (Nat.le_of_ble_eq_true rfl) (at_row (H := h2) (d := 6) o74 (xlt hN2 (by decide)) (by decide) hc) ?_
      refine XGo.go 2 rfl ?_
      have eb := ebg c hc
      by_cases b5 : bg c = m5
      · rw [lsB_f (P := suB f n m g nc c) (k := k) (by show (!decide (bgX f n m (nI k) g nc c = m5)) = false; rw [← eb, decide_eq_true b5]; rfl)] at c4
        unfold suL at c4
        rw [← show nI k + Int32.ofInt 1 = nI (k + 1) from nI_1 k] at c4
        exact XGo.ifp b5 (XGo.go 2 rfl c4)
      · rw [lsB_t (P := suB f n m g nc c) (k := k) (by show (!decide (bgX f n m (nI k) g nc c = m5)) = true; rw [← eb, decide_eq_false b5]; rfl)] at c4
        unfold suL at c4
        rw [← show nI k + Int32.ofInt 1 = nI (k + 1) from nI_1 k] at c4
        exact XGo.ifn b5 (XGo.go 8 rfl c4)
  termination_by q => q
abbrev smL (gr cl w a b k : Int32) (l7 : Option Value) : XL := [some (.ref 536), some (.int gr), some (.int cl), some (.int w), some (.int a), some (.int b), some (.int k), l7]
set_option maxRecDepth 100000 in
theorem su_m (W : RW f n m) (hg : g < 6) (hnc : 1 ≤ nc ∧ nc ≤ 6) (hfn : f (130 + g) = nI nc) (hC : CI f g Lt Nt nc) (w : Int32) {c : Nat} (hc : c < 6) {v : Option Value} (fin : ∀ (h' : XH) (l7 : Option Value), MBk h' f → XGo 7 xm_X7_sure (119, smL (nI g) (nI c) w (nI (ctN (suB f n m g nc c) (2 ^ m))) (fwS (suB f n m g nc c) (2 ^ m)) (nI (2 ^ m)) l7, [], h') v h') : ∀ (q k : Nat) (h : XH) (l7 : Option Value), k + q = 2 ^ m → MBk h f → ∃ h1 : XH, XGo 7 xm_X7_sure (30, smL (nI g) (nI c) w (nI (ctN (suB f n m g nc c) k)) (fwS (suB f n m g nc c) k) (nI k) l7, [], h) v h1 ∧ h1.2.2 537 = .inr (.inl (0, 490, f)) ∧ ∀ z, z < 536 → h1.2.2 z = h.2.2 z
  | q, k, h, l7, hk, hB => by
    obtain ⟨hN, hS, ⟨e, o36⟩, hf, -⟩ := id hB
    have e64 := (shm_nI ⟨m, by have := W.m6; omega⟩).2
    dsimp only at e64
    have head : ∀ {v : Option Value} {hend : XH}, XGo 7 xm_X7_sure (if nI (2 ^ m) ≤ nI k then 119 else 39, smL (nI g) (nI c) w (nI (ctN (suB f n m g nc c) k)) (fwS (suB f n m g nc c) k) (nI k) l7, [], h) v hend → XGo 7 xm_X7_sure (30, smL (nI g) (nI c) w (nI (ctN (suB f n m g nc c) k)) (fwS (suB f n m g nc c) k) (nI k) l7, [], h) v hend := fun {v hend} t => by
      refine XGo.go 2 rfl ?_
      refine XGo.call _ rfl xm_X7_courses rfl rfl [.ref 536] [.int (nI k)] rfl rfl (fun _ => ⟨536, _, rfl, o36, by decide, by omega⟩) (Nat.le_of_ble_eq_true rfl) (k_courses 6 W hN o36 hf) ?_
      exact XGo.go 1 rfl t
    match q, hk with
    | 0, hk =>
      have hk : k = 2 ^ m := by omega
      subst hk
      exact ⟨h, head (XGo.ifp (Int32.le_refl _) (fin h l7 hB)), hf, fun _ _ => rfl⟩
    | q + 1, hk =>
      have k64 : k < 64 := by omega
      obtain ⟨h2, cC, hB2, -, -, -, ⟨bg, o45, ebg⟩, oth⟩ := M_goes hB W hg hnc hfn hC (nI k)
      obtain ⟨hN2, -, ⟨e2, o362⟩, hf2, -⟩ := id hB2
      have eb := ebg c hc
      have ih := fun b : Int32 => su_m W hg hnc hfn hC w hc fin q (k + 1) h2 (some (.int b)) (by omega) hB2
      have fin2 : ∀ {h4 : XH}, (∀ z, z < 536 → h4.2.2 z = h2.2.2 z) → ∀ z, z < 536 → h4.2.2 z = h.2.2 z := fun o z hz => (o z hz).trans (oth z (by omega) (by omega))
      have pre : ∀ {v : Option Value} {hend : XH}, XGo 7 xm_X7_sure (if bg c = m5 then 61 else 57, smL (nI g) (nI c) w (nI (ctN (suB f n m g nc c) k)) (fwS (suB f n m g nc c) k) (nI k) l7, [], h2) v hend → XGo 7 xm_X7_sure (30, smL (nI g) (nI c) w (nI (ctN (suB f n m g nc c) k)) (fwS (suB f n m g nc c) k) (nI k) l7, [], h) v hend := fun {v hend} t => by
        refine head (XGo.ifn (fun z => absurd ((xnI_ge (m := 2 ^ m) (by omega) (by omega)).mp z) (by omega)) ?_)
        refine XGo.go 3 rfl ?_
        refine XGo.call _ rfl xm_X7_goes rfl rfl [.ref 536, .int (nI g), .int (nI k)] [] rfl rfl (fun _ => ⟨536, _, rfl, o36, by decide, by omega⟩) (Nat.le_of_ble_eq_true rfl) cC ?_
        refine XGo.go 1 rfl ?_
        refine XGo.getf rfl (xfd_o o362 (xlt hN2 (by decide)) (by decide) rfl) ?_
        refine XGo.go 1 rfl ?_
        refine XGo.iald rfl (ia_nI o45 (xlt hN2 (by decide)) hc (by decide)) ?_
        exact XGo.go 2 rfl t
      by_cases b5 : bg c = m5
      · have eP : suB f n m g nc c k = false := by
          show (!decide (bgX f n m (nI k) g nc c = m5)) = false
          rw [← eb, decide_eq_true b5]
          rfl
        obtain ⟨h4, c4, hf4, o4⟩ := ih (Int32.ofInt 0)
        refine ⟨h4, pre (XGo.ifp b5 ?_), hf4, fin2 o4⟩
        rw [fwS_f (P := suB f n m g nc c) (k := k) eP, show ctN (suB f n m g nc c) (k + 1) = ctN (suB f n m g nc c) k by show _ + (if suB f n m g nc c k = true then 1 else 0) = _; rw [eP, if_neg (by decide), Nat.add_zero]] at c4
        unfold smL at c4
        rw [← show nI k + Int32.ofInt 1 = nI (k + 1) from nI_1 k] at c4
        refine XGo.go 5 rfl ?_
        refine XGo.ifp (by decide) ?_
        refine XGo.go 1 rfl ?_
        rw [← show nI (ctN (suB f n m g nc c) k) + Int32.ofInt 0 = nI (ctN (suB f n m g nc c) k) from Int32.add_zero _] at c4
        refine XGo.go 4 rfl ?_
        refine XGo.ifp (by decide) ?_
        exact XGo.go 4 rfl c4
      · have eP : suB f n m g nc c k = true := by
          show (!decide (bgX f n m (nI k) g nc c = m5)) = true
          rw [← eb, decide_eq_false b5]
          rfl
        obtain ⟨h4, c4, hf4, o4⟩ := ih (Int32.ofInt 1)
        refine ⟨h4, pre (XGo.ifn b5 ?_), hf4, fin2 o4⟩
        rw [show ctN (suB f n m g nc c) (k + 1) = ctN (suB f n m g nc c) k + 1 by show _ + (if suB f n m g nc c k = true then 1 else 0) = _; rw [eP, if_pos rfl]] at c4
        unfold smL at c4
        rw [← show nI k + Int32.ofInt 1 = nI (k + 1) from nI_1 k, ← show nI (ctN (suB f n m g nc c) k) + Int32.ofInt 1 = nI (ctN (suB f n m g nc c) k + 1) from nI_1 _] at c4
        refine XGo.go 6 rfl ?_
        refine XGo.ifn (by decide) ?_
        refine XGo.go 2 rfl ?_
        refine XGo.go 4 rfl ?_
        refine XGo.ifn (by decide) ?_
        refine XGo.go 3 rfl ?_
        by_cases f5 : fwS (suB f n m g nc c) k = m5
        · refine XGo.ifp f5 ?_
          rw [show fwS (suB f n m g nc c) (k + 1) = nI k from if_pos ⟨eP, Or.inl f5⟩] at c4
          exact XGo.go 5 rfl c4
        · refine XGo.ifn f5 ?_
          refine XGo.go 1 rfl ?_
          refine XGo.call _ rfl xm_X7_count1 rfl rfl [.int (nI k)] [] rfl rfl (fun z => absurd rfl z) (Nat.le_of_ble_eq_true rfl) (k_c1 6 h2 (nI k)) ?_
          refine XGo.go 1 rfl ?_
          refine XGo.call _ rfl xm_X7_count1 rfl rfl [.int (fwS (suB f n m g nc c) k)] [.int (c1S (nI k) 14)] rfl rfl (fun z => absurd rfl z) (Nat.le_of_ble_eq_true rfl) (k_c1 6 h2 (fwS (suB f n m g nc c) k)) ?_
          refine XGo.go 1 rfl ?_
          by_cases cc : c1S (fwS (suB f n m g nc c) k) 14 ≤ c1S (nI k) 14
          · refine XGo.ifp cc ?_
            rw [show fwS (suB f n m g nc c) (k + 1) = fwS (suB f n m g nc c) k from if_neg fun z => (z.2.elim (fun w => f5 w) fun w => absurd cc (Int32.not_le.mpr w))] at c4
            exact XGo.go 4 rfl c4
          · refine XGo.ifn cc ?_
            rw [show fwS (suB f n m g nc c) (k + 1) = nI k from if_pos ⟨eP, Or.inr (Int32.not_le.mp cc)⟩] at c4
            exact XGo.go 5 rfl c4
  termination_by q => q
set_option maxRecDepth 100000 in
/-- the class's answer, its loop behind it -/
theorem su_cf (W : RW f n m) (gr : Int32) {c : Nat} {w : Int32} (hw : 0 ≤ w.toInt ∧ w.toInt ≤ 2) (p : Nat) {h : XH} (hI : INVg L xs h) (hf : h.2.2 537 = .inr (.inl (0, 490, f))) : XGo 7 xm_X6_sure (96, suL gr (nI c) w p (lsB (suB f n m g nc c) (2 ^ m)) (nI (2 ^ m)), [], h) (some (.int (suS f n m g nc c w))) h := by
  have h3 := rd3_of hI hf W
  have hN : h.1 = 549 := hI.1.1.1
  obtain ⟨fs, h13, -, -, -⟩ := w_lg hI.1.1
  obtain ⟨e, e64⟩ := shm_nI ⟨m, by have := W.m6; omega⟩
  dsimp only at e e64
  refine XGo.go 3 rfl ?_
  by_cases w1 : w = Int32.ofInt 1
  · rw [show suS f n m g nc c w = fwS (suB f n m g nc c) (2 ^ m) from if_pos w1]
    refine XGo.ifp w1 ?_
    refine XGo.go 1 rfl ?_
    refine XGo.call _ rfl xm_X6_fewest rfl rfl [.long (lsB (suB f n m g nc c) (2 ^ m))] [] rfl rfl (fun z => absurd rfl z) (Nat.le_of_ble_eq_true rfl) (k_fewest 5 _ e64) ?_
    exact XGo.iret _ rfl rfl .int rfl rfl
  · refine XGo.ifn w1 ?_
    refine XGo.go 1 rfl ?_
    have q := k_bc64 6 h (lsB (suB f n m g nc c) (2 ^ m))
    rw [bc64_ls _ e64] at q
    refine XGo.call _ rfl xm_J13_bitCount_95d88 rfl rfl [.long (lsB (suB f n m g nc c) (2 ^ m))] [] rfl rfl (fun z => absurd rfl z) (Nat.le_of_ble_eq_true rfl) q ?_
    refine XGo.go 4 rfl ?_
    by_cases w2 : w = Int32.ofInt 2
    · rw [show suS f n m g nc c w = nI (ctN (suB f n m g nc c) (2 ^ m)) from (if_neg w1).trans (if_pos w2)]
      refine XGo.ifp w2 ?_
      refine XGo.go 1 rfl ?_
      exact XGo.iret _ rfl rfl .int rfl rfl
    · rw [show suS f n m g nc c w = su0 (nI (ctN (suB f n m g nc c) (2 ^ m))) (nI (2 ^ m)) from (if_neg w1).trans (if_neg w2)]
      refine XGo.ifn w2 ?_
      refine XGo.go 2 rfl ?_
      refine XGo.call _ rfl xm_X6_coursesThereAre rfl rfl [.ref 13] [.int (nI (ctN (suB f n m g nc c) (2 ^ m)))] rfl rfl (fun _ => ⟨13, fs, rfl, h13, by decide, by omega⟩) (Nat.le_of_ble_eq_true rfl) (k_many 6 hI.1.1 h3) ?_
      rw [e]
      refine XGo.go 1 rfl ?_
      by_cases c1 : nI (ctN (suB f n m g nc c) (2 ^ m)) = nI (2 ^ m)
      · rw [show su0 (nI (ctN (suB f n m g nc c) (2 ^ m))) (nI (2 ^ m)) = Int32.ofInt 2 from if_pos c1]
        refine XGo.ifp c1 ?_
        refine XGo.go 2 rfl ?_
        exact XGo.iret _ rfl rfl .int rfl rfl
      · refine XGo.ifn c1 ?_
        refine XGo.go 2 rfl ?_
        by_cases c2 : nI (ctN (suB f n m g nc c) (2 ^ m)) ≤ 0
        · rw [show su0 (nI (ctN (suB f n m g nc c) (2 ^ m))) (nI (2 ^ m)) = Int32.ofInt 0 from (if_neg c1).trans (if_pos c2)]
          refine XGo.ifp c2 ?_
          refine XGo.go 1 rfl ?_
          exact XGo.iret _ rfl rfl .int rfl rfl
        · rw [show su0 (nI (ctN (suB f n m g nc c) (2 ^ m))) (nI (2 ^ m)) = Int32.ofInt 1 from (if_neg c1).trans (if_neg c2)]
          refine XGo.ifn c2 ?_
          refine XGo.go 2 rfl ?_
          exact XGo.iret _ rfl rfl .int rfl rfl
set_option maxRecDepth 100000 in
/-- the model's -/
theorem su_mf (W : RW f n m) (gr : Int32) {c : Nat} {w : Int32} (hw : 0 ≤ w.toInt ∧ w.toInt ≤ 2) {h : XH} (l7 : Option Value) (hB : MBk h f) : XGo 7 xm_X7_sure (119, smL gr (nI c) w (nI (ctN (suB f n m g nc c) (2 ^ m))) (fwS (suB f n m g nc c) (2 ^ m)) (nI (2 ^ m)) l7, [], h) (some (.int (suS f n m g nc c w))) h := by
  obtain ⟨hN, hS, ⟨e, o36⟩, hf, -⟩ := id hB
  refine XGo.go 1 rfl ?_
  unfold suS
  rcases in3_cases hw with rfl | rfl | rfl
  · rw [if_neg (by decide), if_neg (by decide)]
    refine XGo.go 1 rfl ?_
    refine XGo.ifp (by decide) ?_
    refine XGo.go 2 rfl ?_
    refine XGo.call _ rfl xm_X7_courses rfl rfl [.ref 536] [.int (nI (ctN (suB f n m g nc c) (2 ^ m)))] rfl rfl (fun _ => ⟨536, _, rfl, o36, by decide, by omega⟩) (Nat.le_of_ble_eq_true rfl) (k_courses 6 W hN o36 hf) ?_
    refine XGo.go 1 rfl ?_
    by_cases c1 : nI (ctN (suB f n m g nc c) (2 ^ m)) = nI (2 ^ m)
    · rw [show su0 (nI (ctN (suB f n m g nc c) (2 ^ m))) (nI (2 ^ m)) = Int32.ofInt 2 from if_pos c1]
      refine XGo.ifp c1 ?_
      refine XGo.go 2 rfl ?_
      exact XGo.iret _ rfl rfl .int rfl rfl
    · refine XGo.ifn c1 ?_
      refine XGo.go 2 rfl ?_
      by_cases c2 : nI (ctN (suB f n m g nc c) (2 ^ m)) ≤ 0
      · rw [show su0 (nI (ctN (suB f n m g nc c) (2 ^ m))) (nI (2 ^ m)) = Int32.ofInt 0 from (if_neg c1).trans (if_pos c2)]
        refine XGo.ifp c2 ?_
        refine XGo.go 2 rfl ?_
        exact XGo.iret _ rfl rfl .int rfl rfl
      · rw [show su0 (nI (ctN (suB f n m g nc c) (2 ^ m))) (nI (2 ^ m)) = Int32.ofInt 1 from (if_neg c1).trans (if_neg c2)]
        refine XGo.ifn c2 ?_
        refine XGo.go 2 rfl ?_
        exact XGo.iret _ rfl rfl .int rfl rfl
  · rw [if_pos rfl]
    refine XGo.go 1 rfl ?_
    refine XGo.ifn (by decide) ?_
    refine XGo.go 3 rfl ?_
    refine XGo.ifp (by decide) ?_
    refine XGo.go 2 rfl ?_
    exact XGo.iret _ rfl rfl .int rfl rfl
  · rw [if_neg (by decide), if_pos rfl]
    refine XGo.go 1 rfl ?_
    refine XGo.ifn (by decide) ?_
    refine XGo.go 3 rfl ?_
    refine XGo.ifn (by decide) ?_
    refine XGo.go 1 rfl ?_
    exact XGo.iret _ rfl rfl .int rfl rfl
end SU
/-- SURE ON BOTH SIDES -/
theorem G_sure (gr cl w : Int32) {L : Nat} {xs : Nat → Int32} {h : XH} (hI : INVg L xs h) : ∃ (v : Int32) (h1 h2 : XH), XCall xM 11 70 [.ref 13, .int gr, .int cl, .int w] h (some (.int v)) h1 ∧ AInv w_W h1 ∧ h1.2.2 1 = h.2.2 1 ∧ XCall xM 11 150 [.ref 536, .int gr, .int cl, .int w] h1 (some (.int v)) h2 ∧ INVg L xs h2 := by
  obtain ⟨f, n, m, G, T, fw, hf, W, hH, hG, f2, h3, hg⟩ := G_ctx hI
  have hB := mbk_of hI.1.1 hf
  have hN := hH.N
  have e2 : (Int32.ofInt 2).toInt = 2 := by decide
  have ch : ∀ (d : Nat) {u : Value} {v : Option Value} {hend : XH}, XCall xM (d + 1) 58 [.ref 14, .int gr] h (some u) h → XGo (d + 1) xm_X6_sure (8, [some (.ref 13), some (.int gr), some (.int cl), some (.int w), none, none, none, none], [u], h) v hend → XCall xM (d + 2) 70 [.ref 13, .int gr, .int cl, .int w] h v hend := fun d {u v hend} c58 k => by
    refine XCall.of (M := xm_X6_sure) rfl (Nat.le_of_ble_eq_true rfl) ?_
    refine XGo.go 1 rfl ?_
    refine XGo.getr rfl hI.1.1 (by decide) (by decide) w_rg_13 k13s (by decide) (r13_0 hI.1.1) ?_
    refine XGo.go 1 rfl ?_
    exact XGo.call _ rfl xm_X5_grantAt rfl rfl [.ref 14, .int gr] [] rfl rfl (fun _ => ⟨14, _, rfl, hH.o14, by decide, by omega⟩) (Nat.le_of_ble_eq_true rfl) c58 k
  have mh : ∀ (d : Nat) {h1 : XH} {b : Int32} {v : Option Value} {hend : XH}, MBk h1 f → XCall xM (d + 3) 109 [.ref 536, .int gr, .int cl] h1 (some (.int b)) h1 → XGo (d + 3) xm_X7_sure (6, [some (.ref 536), some (.int gr), some (.int cl), some (.int w), none, none, none, none], [.int b], h1) v hend → XCall xM (d + 4) 150 [.ref 536, .int gr, .int cl, .int w] h1 v hend := fun d {h1 b v hend} hB1 q k => by
    obtain ⟨hN1, -, ⟨e, o36⟩, hf1, -⟩ := id hB1
    refine XCall.of (M := xm_X7_sure) rfl (Nat.le_of_ble_eq_true rfl) ?_
    refine XGo.go 3 rfl ?_
    exact XGo.call _ rfl xm_X7_isClause rfl rfl [.ref 536, .int gr, .int cl] [] rfl rfl (fun _ => ⟨536, _, rfl, o36, by decide, by omega⟩) (Nat.le_of_ble_eq_true rfl) q k
  have mbad : ∀ (d : Nat) (h1 : XH), XGo d xm_X7_sure (18, [some (.ref 536), some (.int gr), some (.int cl), some (.int w), none, none, none, none], [], h1) (some (.int m1)) h1 := fun d h1 => by
    refine XGo.go 1 rfl ?_
    exact XGo.iret _ rfl rfl .int rfl rfl
  rcases gr_dec hG gr with hb | ⟨g, hgG, rfl⟩
  · refine ⟨m1, h, h, XCall.up (by decide) (ch 0 (k_gNo 0 hH hG hb) ?_), hI.1.1, rfl, XCall.up (by decide) (mh 0 hB (k_isCl7n 0 hB hG f2 hb cl) ?_), hI⟩
    · refine XGo.go 4 rfl ?_
      exact XGo.iret _ rfl rfl .int rfl rfl
    · refine XGo.go 1 rfl ?_
      exact XGo.ifp (by decide) (mbad _ _)
  · obtain ⟨nc, Lt, Nt, hnc, hCG, hfn, hC⟩ := hg g hgG
    have cbad : XGo 7 xm_X6_sure (33, [some (.ref 13), some (.int (nI g)), some (.int cl), some (.int w), some (.ref (24 + 3 * g)), none, none, none], [], h) (some (.int m1)) h := by
      refine XGo.go 1 rfl ?_
      exact XGo.iret _ rfl rfl .int rfl rfl
    have ch2 : ∀ {v : Option Value} {hend : XH}, XGo 7 xm_X6_sure (21, [some (.ref 13), some (.int (nI g)), some (.int cl), some (.int w), some (.ref (24 + 3 * g)), none, none, none], [.int (if isCl nc cl then 1 else 0)], h) v hend → XCall xM 8 70 [.ref 13, .int (nI g), .int cl, .int w] h v hend := fun {v hend} k => by
      refine ch 6 (k_gAt 6 hH hgG hG) ?_
      refine XGo.go 5 rfl ?_
      exact XGo.call _ rfl xm_X1_hasClause rfl rfl [.ref (24 + 3 * g), .int cl] [] rfl rfl (fun _ => ⟨24 + 3 * g, _, rfl, hCG.1, by omega, by omega⟩) (Nat.le_of_ble_eq_true rfl) (k_hasC 6 hN hCG (by omega) hnc.2 cl) k
    have mh2 : ∀ {h1 : XH} {v : Option Value} {hend : XH}, MBk h1 f → XGo 7 xm_X7_sure (6, [some (.ref 536), some (.int (nI g)), some (.int cl), some (.int w), none, none, none, none], [.int (if isCl nc cl then 1 else 0)], h1) v hend → XCall xM 8 150 [.ref 536, .int (nI g), .int cl, .int w] h1 v hend := fun {h1 v hend} hB1 k => mh 4 hB1 (k_isCl7 4 hB1 hG f2 hgG hnc hfn cl) k
    by_cases hl : isCl nc cl
    · have mh3 : ∀ {h1 : XH} {v : Option Value} {hend : XH}, MBk h1 f → XGo 7 xm_X7_sure (15, [some (.ref 536), some (.int (nI g)), some (.int cl), some (.int w), none, none, none, none], [.int (if 0 ≤ w.toInt ∧ w.toInt ≤ 2 then 1 else 0)], h1) v hend → XCall xM 8 150 [.ref 536, .int (nI g), .int cl, .int w] h1 v hend := fun {h1 v hend} hB1 k => by
        refine mh2 hB1 ?_
        rw [if_pos hl]
        refine XGo.go 1 rfl ?_
        refine XGo.ifn (by decide) ?_
        refine XGo.go 3 rfl ?_
        exact XGo.call _ rfl xm_X7_in rfl rfl [.int w, .int (Int32.ofInt 0), .int (Int32.ofInt 2)] [] rfl rfl (fun z => absurd rfl z) (Nat.le_of_ble_eq_true rfl) (k_in2 6 h1 w) k
      have ch3 : ∀ {v : Option Value} {hend : XH}, XGo 7 xm_X6_sure (if w < 0 then 33 else 28, [some (.ref 13), some (.int (nI g)), some (.int cl), some (.int w), some (.ref (24 + 3 * g)), none, none, none], [], h) v hend → XCall xM 8 70 [.ref 13, .int (nI g), .int cl, .int w] h v hend := fun {v hend} k => by
        refine ch2 ?_
        rw [if_pos hl]
        refine XGo.go 1 rfl ?_
        refine XGo.ifn (by decide) ?_
        exact XGo.go 2 rfl k
      by_cases hw : 0 ≤ w.toInt ∧ w.toInt ≤ 2
      · obtain ⟨yn, y5⟩ := i32_nI (x := cl) (hi := 5) hl.1 (by have := hl.2; omega)
        obtain ⟨c, yl, rfl⟩ : ∃ c : Nat, c < 6 ∧ cl = nI c := ⟨cl.toNatClampNeg, by omega, yn⟩
        obtain ⟨h1, c1, hI1, o1⟩ := su_c W (show g < 6 by omega) hnc hC (nI g) w yl (fun h' hI' hf' => su_cf W (nI g) hw (24 + 3 * g) hI' hf') (2 ^ m) 0 h (by omega) hI hf hCG
        have hf1 := o1.trans hf
        have hB1 := mbk_of hI1.1.1 hf1
        obtain ⟨h2, c2, hf2, o2⟩ := su_m W (show g < 6 by omega) hnc hfn hC w yl (fun h' l7 hB' => su_mf W (nI g) hw l7 hB') (2 ^ m) 0 h1 none (by omega) hB1
        have c1 : XCall xM 8 70 [.ref 13, .int (nI g), .int (nI c), .int w] h (some (.int (suS f n m g nc c w))) h1 := ch3 (by
          refine XGo.ifn (fun q => by have := lt0_iff.mp q; omega) ?_
          refine XGo.go 3 rfl ?_
          refine XGo.ifp (Int32.le_iff_toInt_le.mpr (by rw [e2]; exact hw.2)) ?_
          exact XGo.go 4 rfl c1)
        have c2 : XCall xM 8 150 [.ref 536, .int (nI g), .int (nI c), .int w] h1 (some (.int (suS f n m g nc c w))) h2 := mh3 hB1 (by
          rw [if_pos hw]
          refine XGo.go 1 rfl ?_
          refine XGo.ifn (by decide) ?_
          exact XGo.go 6 rfl c2)
        refine ⟨_, h1, h2, XCall.up (by decide) c1, hI1.1.1, XCall.ext _ _ _ _ _ _ c1 (by rw [hI.1.1.1]; decide) 1 (by decide), XCall.up (by decide) c2, ?_⟩
        exact G_fin h_935 (by decide +kernel) rfl (by decide +kernel) (by decide +kernel) (by decide +kernel) (gal536 (galT _ (galT _ (galT w gal0)))) hI1 c2 hf1 hf2 o2
      · refine ⟨m1, h, h, XCall.up (e := 11) (by decide) (ch3 ?_), hI.1.1, rfl, XCall.up (by decide) (mh3 hB ?_), hI⟩
        · by_cases w0 : w < 0
          · exact XGo.ifp w0 cbad
          · have e0 : ¬ w.toInt < 0 := fun q => w0 (lt0_iff.mpr q)
            refine XGo.ifn w0 ?_
            refine XGo.go 3 rfl ?_
            exact XGo.ifn (fun q => hw ⟨by omega, by have := Int32.le_iff_toInt_le.mp q; rw [e2] at this; exact this⟩) cbad
        · rw [if_neg hw]
          refine XGo.go 1 rfl ?_
          exact XGo.ifp (by decide) (mbad _ _)
    · refine ⟨m1, h, h, XCall.up (e := 11) (by decide) (ch2 ?_), hI.1.1, rfl, XCall.up (by decide) (mh2 hB ?_), hI⟩
      · rw [if_neg hl]
        refine XGo.go 1 rfl ?_
        exact XGo.ifp (by decide) cbad
      · rw [if_neg hl]
        refine XGo.go 1 rfl ?_
        exact XGo.ifp (by decide) (mbad _ _)
