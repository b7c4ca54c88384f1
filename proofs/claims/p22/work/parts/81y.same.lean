/-! same on both sides -/
abbrev eqA (a b : Nat → Int32) : Prop := ∀ j, j < 41 → a j = b j
/-- the first course in which two grants differ -/
def saS (f : Nat → Int32) (n m g nc g2 nc2 : Nat) : Nat → Nat → Int32
  | 0, _ => m5
  | q + 1, k => if eqA (hsX f n m (nI k) g nc) (hsX f n m (nI k) g2 nc2) then saS f n m g nc g2 nc2 q (k + 1) else nI k
section SA
variable {L : Nat} {xs : Nat → Int32} {h : XH} {fw : List Value} {G T : Nat} {f : Nat → Int32} {n m : Nat} {g nc g2 nc2 : Nat} {Lt Nt Lt2 Nt2 : Nat → Int32}
set_option maxRecDepth 100000 in
theorem sm_c (d : Nat) {ho ho2 : Nat → Int32} (hI : AInv w_W h) (o71 : ∃ c r b hv : Int32, h.2.2 71 = .inl (4, [.ref 72, .ref 73, .ref 74, .int c, .int r, .int b, .int hv])) (o72 : h.2.2 72 = .inr (.inl (0, 41, ho))) (o75 : ∃ c r b hv : Int32, h.2.2 75 = .inl (4, [.ref 76, .ref 77, .ref 78, .int c, .int r, .int b, .int hv])) (o76 : h.2.2 76 = .inr (.inl (0, 41, ho2))) (a b s : Int32) {v : Option Value} {hend : XH} (k9 : eqA ho ho2 → XGo (d + 1) xm_X6_same (86, [some (.ref 13), some (.int a), some (.int b), some (.int s), some (.int (nI 41))], [], h) v hend) (k8 : ¬ eqA ho ho2 → v = some (.int s) ∧ hend = h) : ∀ (q k : Nat), k + q = 41 → (∀ j, j < k → ho j = ho2 j) → XGo (d + 1) xm_X6_same (44, [some (.ref 13), some (.int a), some (.int b), some (.int s), some (.int (nI k))], [], h) v hend
  | 0, k, hk, hF => by
    have hk : k = 41 := by omega
    subst hk
    refine XGo.go 3 rfl ?_
    refine XGo.ifp (by decide) ?_
    exact k9 hF
  | q + 1, k, hk, hF => by
    have k41 : k < 41 := by omega
    have hN : h.1 = 549 := hI.1
    have nx := sm_c d hI o71 o72 o75 o76 a b s k9 k8 q (k + 1) (by omega)
    obtain ⟨_, _, _, _, p71⟩ := o71
    obtain ⟨_, _, _, _, p75⟩ := o75
    have q1 := at_row (H := h) (d := d) o72 (xlt hN (by decide)) (by decide) k41
    have q2 := at_row (H := h) (d := d) o76 (xlt hN (by decide)) (by decide) k41
    rw [← show nI k + Int32.ofInt 1 = nI (k + 1) from nI_1 k] at nx
    refine XGo.go 3 rfl ?_
    refine XGo.ifn (fun z => absurd ((xnI_ge (m := 41) (by decide) (by omega)).mp z) (by omega)) ?_
    refine XGo.go 1 rfl ?_
    refine XGo.getr rfl hI (by decide) (by decide) w_rg_13 k13s (by decide) (r13_4 hI) ?_
    refine XGo.getf rfl (xfd_o p71 (xlt hN (by decide)) (by decide) rfl) ?_
    refine XGo.go 1 rfl ?_
    refine XGo.call _ rfl xm_X6_at rfl rfl [.ref 72, .int (nI k)] [] rfl rfl (fun z => absurd rfl z) (Nat.le_of_ble_eq_true rfl) q1 ?_
    refine XGo.go 1 rfl ?_
    refine XGo.getr rfl hI (by decide) (by decide) w_rg_13 k13s (by decide) (r13_5 hI) ?_
    refine XGo.getf rfl (xfd_o p75 (xlt hN (by decide)) (by decide) rfl) ?_
    refine XGo.go 1 rfl ?_
    refine XGo.call _ rfl xm_X6_at rfl rfl [.ref 76, .int (nI k)] [.int (ho k)] rfl rfl (fun z => absurd rfl z) (Nat.le_of_ble_eq_true rfl) q2 ?_
    refine XGo.go 1 rfl ?_
    by_cases z : ho k = ho2 k
    · refine XGo.ifp z ?_
      exact XGo.go 2 rfl (nx fun j hj => by
        by_cases e : j = k
        · rw [e]; exact z
        · exact hF j (by omega))
    · obtain ⟨e1, e2⟩ := k8 fun w => z (w k k41)
      rw [e1, e2]
      refine XGo.ifn z ?_
      refine XGo.go 1 rfl ?_
      exact XGo.iret _ rfl rfl .int rfl rfl
  termination_by q => q
set_option maxRecDepth 100000 in
theorem sm_m (d : Nat) {e fs ho : Nat → Int32} (hN : h.1 = 549) (o36 : h.2.2 536 = .inl (7, mO e)) (o47 : h.2.2 547 = .inr (.inl (0, 41, fs))) (o43 : h.2.2 543 = .inr (.inl (0, 41, ho))) (a b s : Int32) {v : Option Value} {hend : XH} (k9 : eqA fs ho → XGo d xm_X7_same (70, [some (.ref 536), some (.int a), some (.int b), some (.int s), some (.int (nI 41))], [], h) v hend) (k8 : ¬ eqA fs ho → v = some (.int s) ∧ hend = h) : ∀ (q k : Nat), k + q = 41 → (∀ j, j < k → fs j = ho j) → XGo d xm_X7_same (38, [some (.ref 536), some (.int a), some (.int b), some (.int s), some (.int (nI k))], [], h) v hend
  | 0, k, hk, hF => by
    have hk : k = 41 := by omega
    subst hk
    refine XGo.go 3 rfl ?_
    refine XGo.ifp (by decide) ?_
    exact k9 hF
  | q + 1, k, hk, hF => by
    have k41 : k < 41 := by omega
    have nx := sm_m d hN o36 o47 o43 a b s k9 k8 q (k + 1) (by omega)
    have q1 := ia_nI o47 (xlt hN (by decide)) k41 (by decide)
    have q2 := ia_nI o43 (xlt hN (by decide)) k41 (by decide)
    rw [← show nI k + Int32.ofInt 1 = nI (k + 1) from nI_1 k] at nx
    refine XGo.go 3 rfl ?_
    refine XGo.ifn (fun z => absurd ((xnI_ge (m := 41) (by decide) (by omega)).mp z) (by omega)) ?_
    refine XGo.go 1 rfl ?_
    refine XGo.getf rfl (xfd_o o36 (xlt hN (by decide)) (by decide) rfl) ?_
    refine XGo.go 1 rfl ?_
    refine XGo.iald rfl q1 ?_
    refine XGo.go 1 rfl ?_
    refine XGo.getf rfl (xfd_o o36 (xlt hN (by decide)) (by decide) rfl) ?_
    refine XGo.go 1 rfl ?_
    refine XGo.iald rfl q2 ?_
    refine XGo.go 1 rfl ?_
    by_cases z : fs k = ho k
    · refine XGo.ifp z ?_
      exact XGo.go 2 rfl (nx fun j hj => by
        by_cases e : j = k
        · rw [e]; exact z
        · exact hF j (by omega))
    · obtain ⟨e1, e2⟩ := k8 fun w => z (w k k41)
      rw [e1, e2]
      refine XGo.ifn z ?_
      refine XGo.go 1 rfl ?_
      exact XGo.iret _ rfl rfl .int rfl rfl
  termination_by q => q
theorem eqA_c {a b a2 b2 : Nat → Int32} (h1 : ∀ j, j < 41 → a j = a2 j) (h2 : ∀ j, j < 41 → b j = b2 j) : eqA a b ↔ eqA a2 b2 := ⟨fun k j hj => by rw [← h1 j hj, ← h2 j hj]; exact k j hj, fun k j hj => by rw [h1 j hj, h2 j hj]; exact k j hj⟩
set_option maxRecDepth 100000 in
theorem sa_c (W : RW f n m) (hg : g < G) (hG : G ≤ 6) (hnc : 1 ≤ nc ∧ nc ≤ 6) (hC : CI f g Lt Nt nc) (hg2 : g2 < G) (hnc2 : 1 ≤ nc2 ∧ nc2 ≤ 6) (hC2 : CI f g2 Lt2 Nt2 nc2) : ∀ (q k : Nat) (h : XH) (l4 : Option Value) (fw : List Value) (T : Nat), k + q = 2 ^ m → INVg L xs h → h.2.2 537 = .inr (.inl (0, 490, f)) → GH h fw G T → CG h (24 + 3 * g) (nI nc) Lt Nt → CG h (24 + 3 * g2) (nI nc2) Lt2 Nt2 → ∃ h1 : XH, XGo 8 xm_X6_same (26, [some (.ref 13), some (.int (nI g)), some (.int (nI g2)), some (.int (nI k)), l4], [], h) (some (.int (saS f n m g nc g2 nc2 q k))) h1 ∧ INVg L xs h1 ∧ h1.2.2 537 = h.2.2 537
  | q, k, h, l4, fw, T, hk, hI, hf, hH, hCG, hCG2 => by
    have h3 := rd3_of hI hf W
    have hN : h.1 = 549 := hI.1.1.1
    obtain ⟨fs, h13, -, -, -⟩ := w_lg hI.1.1
    obtain ⟨e, e64⟩ := shm_nI ⟨m, by have := W.m6; omega⟩
    dsimp only at e e64
    have head : ∀ {v : Option Value} {hend : XH}, XGo 8 xm_X6_same (if nI (2 ^ m) ≤ nI k then 92 else 34, [some (.ref 13), some (.int (nI g)), some (.int (nI g2)), some (.int (nI k)), l4], [], h) v hend → XGo 8 xm_X6_same (26, [some (.ref 13), some (.int (nI g)), some (.int (nI g2)), some (.int (nI k)), l4], [], h) v hend := fun {v hend} t => by
      refine XGo.go 2 rfl ?_
      refine XGo.call _ rfl xm_X6_coursesThereAre rfl rfl [.ref 13] [.int (nI k)] rfl rfl (fun _ => ⟨13, fs, rfl, h13, by decide, by omega⟩) (Nat.le_of_ble_eq_true rfl) (k_many 7 hI.1.1 h3) ?_
      rw [e]
      exact XGo.go 1 rfl t
    match q, hk with
    | 0, hk =>
      have hk : k = 2 ^ m := by omega
      subst hk
      refine ⟨h, head (XGo.ifp (Int32.le_refl _) ?_), hI, rfl⟩
      refine XGo.go 1 rfl ?_
      exact XGo.iret _ rfl rfl .int rfl rfl
    | q + 1, hk =>
      have tk := nI_toInt (n := k) (by omega)
      obtain ⟨h2, cB, hI2, ⟨o71, ⟨ho, o72, eho⟩, o75, ⟨ho2, o76, eho2⟩⟩, oth⟩ := G_cboth hI hf W hH hG hg hnc hCG hC hg2 hnc2 hCG2 hC2 (c := nI k) (by omega) (by omega)
      have go : ∀ {v : Option Value} {hend : XH}, (eqA ho ho2 → XGo 8 xm_X6_same (86, [some (.ref 13), some (.int (nI g)), some (.int (nI g2)), some (.int (nI k)), some (.int (nI 41))], [], h2) v hend) → (¬ eqA ho ho2 → v = some (.int (nI k)) ∧ hend = h2) → XGo 8 xm_X6_same (26, [some (.ref 13), some (.int (nI g)), some (.int (nI g2)), some (.int (nI k)), l4], [], h) v hend := fun {v hend} k9 k8 => by
        refine head (XGo.ifn (fun z => absurd ((xnI_ge (m := 2 ^ m) (by omega) (by omega)).mp z) (by omega)) ?_)
        refine XGo.go 4 rfl ?_
        refine XGo.call _ rfl xm_X6_goBoth rfl rfl [.ref 13, .int (nI g), .int (nI g2), .int (nI k)] [] rfl rfl (fun _ => ⟨13, fs, rfl, h13, by decide, by omega⟩) (Nat.le_of_ble_eq_true rfl) (XCall.up (by decide) cB) ?_
        refine XGo.go 2 rfl ?_
        exact sm_c 7 hI2.1.1 o71 o72 o75 o76 _ _ _ k9 k8 41 0 rfl (fun j hj => absurd hj (Nat.not_lt_zero _))
      by_cases z : eqA (hsX f n m (nI k) g nc) (hsX f n m (nI k) g2 nc2)
      · have hf2 : h2.2.2 537 = .inr (.inl (0, 490, f)) := (oth 537 (by omega)).trans hf
        obtain ⟨G', T', fw', hH', ⟨hG', -⟩, f2', -⟩ := gh_of2 hI2 hf2
        obtain ⟨G0, T0, fw0, -, ⟨hG0, -⟩, f20, -⟩ := gh_of2 hI hf
        have eg : G' = G := by
          have a1 := (hH'.w7)
          have b1 : h2.2.2 14 = h.2.2 14 := oth 14 (by omega)
          have c1 := hH'.o14
          rw [b1, hH.o14] at c1
          cases c1
          rw [hH.w7] at a1
          have := int_inj a1
          exact (nI_inj (by omega) (by omega) this).symm
        have hH' : GH h2 fw' G T' := eg ▸ hH'
        obtain ⟨h4, c4, hI4, o4⟩ := sa_c W hg hG hnc hC hg2 hnc2 hC2 q (k + 1) h2 (some (.int (nI 41))) fw' T' (by omega) hI2 hf2 hH' ⟨(oth _ (by omega)).trans hCG.1, (oth _ (by omega)).trans hCG.2.1, (oth _ (by omega)).trans hCG.2.2⟩ ⟨(oth _ (by omega)).trans hCG2.1, (oth _ (by omega)).trans hCG2.2.1, (oth _ (by omega)).trans hCG2.2.2⟩
        rw [show saS f n m g nc g2 nc2 (q + 1) k = saS f n m g nc g2 nc2 q (k + 1) from if_pos z]
        refine ⟨h4, go (fun _ => ?_) (fun w => absurd ((eqA_c eho eho2).mpr z) w), hI4, o4.trans (oth 537 (by omega))⟩
        rw [← show nI k + Int32.ofInt 1 = nI (k + 1) from nI_1 k] at c4
        exact XGo.go 2 rfl c4
      · rw [show saS f n m g nc g2 nc2 (q + 1) k = nI k from if_neg z]
        exact ⟨h2, go (fun w => absurd ((eqA_c eho eho2).mp w) z) (fun _ => ⟨rfl, rfl⟩), hI2, oth 537 (by omega)⟩
  termination_by q => q
set_option maxRecDepth 100000 in
theorem sa_m (W : RW f n m) (hg : g < 6) (hnc : 1 ≤ nc ∧ nc ≤ 6) (hfn : f (130 + g) = nI nc) (hC : CI f g Lt Nt nc) (hg2 : g2 < 6) (hnc2 : 1 ≤ nc2 ∧ nc2 ≤ 6) (hfn2 : f (130 + g2) = nI nc2) (hC2 : CI f g2 Lt2 Nt2 nc2) : ∀ (q k : Nat) (h : XH) (l4 : Option Value) (a47 : Nat → Int32), k + q = 2 ^ m → MBk h f → h.2.2 547 = .inr (.inl (0, 41, a47)) → ∃ h1 : XH, XGo 8 xm_X7_same (20, [some (.ref 536), some (.int (nI g)), some (.int (nI g2)), some (.int (nI k)), l4], [], h) (some (.int (saS f n m g nc g2 nc2 q k))) h1 ∧ h1.2.2 537 = .inr (.inl (0, 490, f)) ∧ ∀ z, z < 536 → h1.2.2 z = h.2.2 z
  | q, k, h, l4, a47, hk, hB, h47 => by
    obtain ⟨hN, hS, ⟨e, o36⟩, hf, -⟩ := id hB
    have e64 := (shm_nI ⟨m, by have := W.m6; omega⟩).2
    dsimp only at e64
    have head : ∀ {v : Option Value} {hend : XH}, XGo 8 xm_X7_same (if nI (2 ^ m) ≤ nI k then 76 else 28, [some (.ref 536), some (.int (nI g)), some (.int (nI g2)), some (.int (nI k)), l4], [], h) v hend → XGo 8 xm_X7_same (20, [some (.ref 536), some (.int (nI g)), some (.int (nI g2)), some (.int (nI k)), l4], [], h) v hend := fun {v hend} t => by
      refine XGo.go 2 rfl ?_
      refine XGo.call _ rfl xm_X7_courses rfl rfl [.ref 536] [.int (nI k)] rfl rfl (fun _ => ⟨536, _, rfl, o36, by decide, by omega⟩) (Nat.le_of_ble_eq_true rfl) (k_courses 7 W hN o36 hf) ?_
      exact XGo.go 1 rfl t
    match q, hk with
    | 0, hk =>
      have hk : k = 2 ^ m := by omega
      subst hk
      refine ⟨h, head (XGo.ifp (Int32.le_refl _) ?_), hf, fun _ _ => rfl⟩
      refine XGo.go 1 rfl ?_
      exact XGo.iret _ rfl rfl .int rfl rfl
    | q + 1, hk =>
      obtain ⟨h2, cB, hB2, ⟨fs, o47, efs⟩, ⟨ho, o43, eho⟩, oth⟩ := M_both hB h47 W hg hnc hfn hC hg2 hnc2 hfn2 hC2 (nI k)
      obtain ⟨hN2, -, ⟨e2, o362⟩, hf2, -⟩ := id hB2
      have go : ∀ {v : Option Value} {hend : XH}, (eqA fs ho → XGo 8 xm_X7_same (70, [some (.ref 536), some (.int (nI g)), some (.int (nI g2)), some (.int (nI k)), some (.int (nI 41))], [], h2) v hend) → (¬ eqA fs ho → v = some (.int (nI k)) ∧ hend = h2) → XGo 8 xm_X7_same (20, [some (.ref 536), some (.int (nI g)), some (.int (nI g2)), some (.int (nI k)), l4], [], h) v hend := fun {v hend} k9 k8 => by
        refine head (XGo.ifn (fun z => absurd ((xnI_ge (m := 2 ^ m) (by omega) (by omega)).mp z) (by omega)) ?_)
        refine XGo.go 4 rfl ?_
        refine XGo.call _ rfl xm_X7_goesBoth rfl rfl [.ref 536, .int (nI g), .int (nI g2), .int (nI k)] [] rfl rfl (fun _ => ⟨536, _, rfl, o36, by decide, by omega⟩) (Nat.le_of_ble_eq_true rfl) cB ?_
        refine XGo.go 2 rfl ?_
        exact sm_m 8 hN2 o362 o47 o43 _ _ _ k9 k8 41 0 rfl (fun j hj => absurd hj (Nat.not_lt_zero _))
      by_cases z : eqA (hsX f n m (nI k) g nc) (hsX f n m (nI k) g2 nc2)
      · obtain ⟨h4, c4, hf4, o4⟩ := sa_m W hg hnc hfn hC hg2 hnc2 hfn2 hC2 q (k + 1) h2 (some (.int (nI 41))) fs (by omega) hB2 o47
        rw [show saS f n m g nc g2 nc2 (q + 1) k = saS f n m g nc g2 nc2 q (k + 1) from if_pos z]
        refine ⟨h4, go (fun _ => ?_) (fun w => absurd ((eqA_c efs eho).mpr z) w), hf4, fun z hz => (o4 z hz).trans (oth z hz)⟩
        rw [← show nI k + Int32.ofInt 1 = nI (k + 1) from nI_1 k] at c4
        exact XGo.go 2 rfl c4
      · rw [show saS f n m g nc g2 nc2 (q + 1) k = nI k from if_neg z]
        exact ⟨h2, go (fun w => absurd ((eqA_c efs eho).mp w) z) (fun _ => ⟨rfl, rfl⟩), hf2, oth⟩
  termination_by q => q
end SA
/-- SAME ON BOTH SIDES -/
theorem G_same (a b : Int32) {L : Nat} {xs : Nat → Int32} {h : XH} (hI : INVg L xs h) : ∃ (v : Int32) (h1 h2 : XH), XCall xM 11 82 [.ref 13, .int a, .int b] h (some (.int v)) h1 ∧ AInv w_W h1 ∧ h1.2.2 1 = h.2.2 1 ∧ XCall xM 11 167 [.ref 536, .int a, .int b] h1 (some (.int v)) h2 ∧ INVg L xs h2 := by
  obtain ⟨f, n, m, G, T, fw, hf, W, hH, hG, f2, h3, hg⟩ := G_ctx hI
  have hB := mbk_of hI.1.1 hf
  rcases gr_dec hG a with ha | ⟨g, hgG, rfl⟩
  · exact ⟨m1, h, h, XCall.up (by decide) (csame_1 0 hI.1.1 hH hG ha), hI.1.1, rfl, XCall.up (by decide) (msame_1 0 hB hG f2 ha), hI⟩
  rcases gr_dec hG b with hb | ⟨g2, hgG2, rfl⟩
  · exact ⟨m1, h, h, XCall.up (by decide) (csame_2 0 hI.1.1 hH hG hgG hb), hI.1.1, rfl, XCall.up (by decide) (msame_2 0 hB hG f2 hgG hb), hI⟩
  obtain ⟨nc, Lt, Nt, hnc, hCG, hfn, hC⟩ := hg g hgG
  obtain ⟨nc2, Lt2, Nt2, hnc2, hCG2, hfn2, hC2⟩ := hg g2 hgG2
  obtain ⟨h1, c1, hI1, o1⟩ := sa_c W hgG hG hnc hC hgG2 hnc2 hC2 (2 ^ m) 0 h none fw T (by omega) hI hf hH hCG hCG2
  have c1 := csame_3 7 hI.1.1 hH hG hgG hgG2 (XGo.go 2 rfl c1)
  have hf1 := o1.trans hf
  have hB1 := mbk_of hI1.1.1 hf1
  obtain ⟨a47, h47⟩ := r547 hI1.1.1
  obtain ⟨h2, c2, hf2, o2⟩ := sa_m W (show g < 6 by omega) hnc hfn hC (show g2 < 6 by omega) hnc2 hfn2 hC2 (2 ^ m) 0 h1 none a47 (by omega) hB1 h47
  have c2 := msame_3 6 hB1 hG f2 hgG hgG2 (XGo.go 2 rfl c2)
  refine ⟨_, h1, h2, XCall.up (by decide) c1, hI1.1.1, XCall.ext _ _ _ _ _ _ c1 (by rw [hI.1.1.1]; decide) 1 (by decide), XCall.up (by decide) c2, ?_⟩
  exact G_fin h_967 (by decide +kernel) rfl (by decide +kernel) (by decide +kernel) (by decide +kernel) (gal536 (galT _ (galT _ gal0))) hI1 c2 hf1 hf2 o2
