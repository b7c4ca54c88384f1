/-! image and undo on both sides: what they leave, said once -/
/-- what image and undo ask: the sides' invariants, and whether an image is kept -/
def both0 (h : XH) : Prop := AInv w_W h ∧ PInv w_W w_P h [] ∧ PInv w_W (67, w_P.2) h [] ∧ ∃ x : Int32, rd h 13 2 = some (.int x) ∧ rd h 536 3 = some (.int x)
/-- the image of the world is the world, the row's image the row -/
def copied (h h2 : XH) : Prop := (∀ b, rd h2 14 b = rd h 14 b) ∧ (∀ b, rd h2 15 b = rd h 15 b) ∧ (∀ b, rd h2 16 b = rd h 16 b) ∧ (∀ b, rd h2 17 b = rd h 17 b) ∧ (∀ b, rd h2 18 b = rd h 18 b) ∧ (∀ b, rd h2 19 b = rd h 19 b) ∧ (∀ b, rd h2 537 b = rd h 537 b) ∧ rd h2 42 0 = rd h 14 0 ∧ rd h2 42 3 = rd h 14 3 ∧ (∀ i, i < 8 → rd h2 43 i = rd h 15 i) ∧ (∀ i, i < 8 → rd h2 44 i = rd h 16 i) ∧ (∀ i, i < 6 → rd h2 45 i = rd h 17 i) ∧ (∀ i, i < 6 → rd h2 46 i = rd h 18 i) ∧ (∀ i, i < 6 → rd h2 47 i = rd h 19 i) ∧ ∀ j, j < 490 → rd h2 538 j = rd h 537 j
def restored (h h2 : XH) : Prop := (∀ b, rd h2 42 b = rd h 42 b) ∧ (∀ b, rd h2 43 b = rd h 43 b) ∧ (∀ b, rd h2 44 b = rd h 44 b) ∧ (∀ b, rd h2 45 b = rd h 45 b) ∧ (∀ b, rd h2 46 b = rd h 46 b) ∧ (∀ b, rd h2 47 b = rd h 47 b) ∧ (∀ b, rd h2 538 b = rd h 538 b) ∧ rd h2 14 0 = rd h 42 0 ∧ rd h2 14 3 = rd h 42 3 ∧ (∀ i, i < 8 → rd h2 15 i = rd h 43 i) ∧ (∀ i, i < 8 → rd h2 16 i = rd h 44 i) ∧ (∀ i, i < 6 → rd h2 17 i = rd h 45 i) ∧ (∀ i, i < 6 → rd h2 18 i = rd h 46 i) ∧ (∀ i, i < 6 → rd h2 19 i = rd h 47 i) ∧ ∀ j, j < 490 → rd h2 537 j = rd h 538 j
theorem both_image {h : XH} (hI : both0 h) {x : Int32} (hc : rd h 14 0 = some (.int x)) (hm : rd h 537 0 = some (.int x)) : ∃ h1 h2 : XH, XCall xM 11 86 [.ref 13] h (some (.int x)) h1 ∧ AInv w_W h1 ∧ h1.2.2 1 = h.2.2 1 ∧ XCall xM 11 180 [.ref 536] h1 (some (.int x)) h2 ∧ h2.2.2 1 = h.2.2 1 ∧ both0 h2 ∧ copied h h2 := by
  obtain ⟨i1, i2, i3, y, r5, r6⟩ := id hI
  obtain ⟨h1, c1, j1, j2, jF, j0, k0, k3, ka, kb, kc, kd, ke⟩ := cimage i1 i2 hc
  have q3 : ∀ b, rd h1 537 b = rd h 537 b := fun b => rdF (b := b) w_rg_537 (by decide) jF (by unfold ahit bq_i; rfl)
  have e1 := XCall.ext _ _ _ _ _ _ c1 (by rw [i1.1]; decide) 1 (by decide)
  obtain ⟨w, h2, f, f1, d1, d0, d2, d3, d4, d5, d6, d7, d8⟩ := im_ok 10 j1
  subst d0
  have e2 := XCall.ext _ _ _ _ _ _ d1 (by rw [j1.1]; decide) 1 (by decide)
  have g1 : h2.2.2 537 = .inr (.inl (0, 490, f)) := (d6 537 (by decide) (by decide)).trans d3
  have p1 := pinv_to (by decide) w_rg_537 d3 j2
  have f0 : f 0 = x := by
    have e := (q3 0).trans hm
    rw [rd_row d3 (by decide)] at e
    exact Value.int.inj (Option.some.inj e)
  have y14 : ∀ b, rd h2 14 b = rd h1 14 b := rd_same (d6 14 (by decide) (by decide))
  have y15 : ∀ b, rd h2 15 b = rd h1 15 b := rd_same (d6 15 (by decide) (by decide))
  have y16 : ∀ b, rd h2 16 b = rd h1 16 b := rd_same (d6 16 (by decide) (by decide))
  have y17 : ∀ b, rd h2 17 b = rd h1 17 b := rd_same (d6 17 (by decide) (by decide))
  have y18 : ∀ b, rd h2 18 b = rd h1 18 b := rd_same (d6 18 (by decide) (by decide))
  have y19 : ∀ b, rd h2 19 b = rd h1 19 b := rd_same (d6 19 (by decide) (by decide))
  have y42 : ∀ b, rd h2 42 b = rd h1 42 b := rd_same (d6 42 (by decide) (by decide))
  have y43 : ∀ b, rd h2 43 b = rd h1 43 b := rd_same (d6 43 (by decide) (by decide))
  have y44 : ∀ b, rd h2 44 b = rd h1 44 b := rd_same (d6 44 (by decide) (by decide))
  have y45 : ∀ b, rd h2 45 b = rd h1 45 b := rd_same (d6 45 (by decide) (by decide))
  have y46 : ∀ b, rd h2 46 b = rd h1 46 b := rd_same (d6 46 (by decide) (by decide))
  have y47 : ∀ b, rd h2 47 b = rd h1 47 b := rd_same (d6 47 (by decide) (by decide))
  have y13 : ∀ b, rd h2 13 b = rd h1 13 b := rd_same (d6 13 (by decide) (by decide))
  have y537 : ∀ b, rd h2 537 b = rd h1 537 b := rd_same (d6 537 (by decide) (by decide))
  rw [f0] at d1
  refine ⟨h1, h2, c1, j1, e1, d1, e2.trans e1, ⟨d2, pinv_of (hc := j2.2.pl fun k hk => d6 k (by omega) (by omega)) (p := 537) (by decide) w_rg_537 rfl g1 p1, pinv_of (hc := cq67) (p := 538) (by decide) w_rg_538 rfl d4 (prs_eq d5 p1), 1, (y13 2).trans j0, d8⟩, ?_⟩
  refine ⟨fun b => (y14 b).trans (rdF (b := b) w_rg_14 (by decide) jF (by unfold ahit bq_i; rfl)), fun b => (y15 b).trans (rdF (b := b) w_rg_15 (by decide) jF (by unfold ahit bq_i; rfl)), fun b => (y16 b).trans (rdF (b := b) w_rg_16 (by decide) jF (by unfold ahit bq_i; rfl)), fun b => (y17 b).trans (rdF (b := b) w_rg_17 (by decide) jF (by unfold ahit bq_i; rfl)), fun b => (y18 b).trans (rdF (b := b) w_rg_18 (by decide) jF (by unfold ahit bq_i; rfl)), fun b => (y19 b).trans (rdF (b := b) w_rg_19 (by decide) jF (by unfold ahit bq_i; rfl)), fun b => (y537 b).trans (q3 b), (y42 0).trans k0, (y42 3).trans k3, fun i hi => (y43 i).trans (ka i hi), fun i hi => (y44 i).trans (kb i hi), fun i hi => (y45 i).trans (kc i hi), fun i hi => (y46 i).trans (kd i hi), fun i hi => (y47 i).trans (ke i hi), fun j hj => ?_⟩
  rw [rd_row d4 hj, d5 j hj, ← rd_row d3 hj]
  exact q3 j
theorem both_undo {h : XH} (hI : both0 h) (hK : KW h) {x : Int32} (hc : rd h 42 0 = some (.int x)) (hm : rd h 538 0 = some (.int x)) : ∃ (v : Int32) (h1 h2 : XH), XCall xM 11 87 [.ref 13] h (some (.int v)) h1 ∧ AInv w_W h1 ∧ h1.2.2 1 = h.2.2 1 ∧ XCall xM 11 181 [.ref 536] h1 (some (.int v)) h2 ∧ h2.2.2 1 = h.2.2 1 ∧ (h2 = h ∨ both0 h2 ∧ restored h h2) := by
  obtain ⟨i1, i2, i3, y, r5, r6⟩ := id hI
  have hx01 : 0 ≤ y.toInt ∧ y.toInt ≤ 1 := by
    obtain ⟨fs, g1, -, -, -⟩ := w_mod i1
    obtain ⟨z, hz, y1, y2⟩ := w_has i1 g1
    have e : rd h 536 3 = some (.int z) := by unfold rd; rw [g1]; exact hz
    rw [r6] at e
    cases e
    exact ⟨y1, y2⟩
  rcases i32_01 hx01.1 hx01.2 with rfl | rfl
  · rcases un_ok 10 i1 with ⟨g1, g2⟩ | ⟨w, h2, f, f1, -, -, -, g3, -⟩
    · exact ⟨_, h, h, cundo0 i1 r5, i1, rfl, g2, rfl, Or.inl rfl⟩
    · rw [r6] at g3
      cases g3
  · obtain ⟨h1, c1, j1, j2, jF, k0, k3, ka, kb, kc, kd, ke⟩ := cundo1 i1 i2 hK r5 hc
    have s1 : ∀ w ∈ (58, (0 : Int), (0 : Int)) :: bq_u, ¬ w.1 = 67 := by decide
    have q3 : ∀ b, rd h1 538 b = rd h 538 b := rd538 jF s1
    have p2 : PInv w_W (67, w_P.2) h1 [] := PInv.o67 jF s1 i3
    have e1 := XCall.ext _ _ _ _ _ _ c1 (by rw [i1.1]; decide) 1 (by decide)
    have f536 : rd h1 536 3 = some (.int 1) := (rdF (b := 3) w_rg_536 (by decide) jF (by decide)).trans r6
    rcases un_ok 10 j1 with ⟨g1, g2⟩ | ⟨w, h2, f, f1, d1, d9, d2, d0, d3, d4, d5, d6⟩
    · rw [f536] at g1
      cases g1
    · subst d9
      have e2 := XCall.ext _ _ _ _ _ _ d1 (by rw [j1.1]; decide) 1 (by decide)
      have g1 : h2.2.2 538 = .inr (.inl (0, 490, f)) := (d6 538 (by decide)).trans d3
      have p1 := pinv_to (by decide) w_rg_538 d3 p2
      have f0 : f 0 = x := by
        have e := (q3 0).trans hm
        rw [rd_row d3 (by decide)] at e
        exact Value.int.inj (Option.some.inj e)
      have yy : ∀ {k : Nat}, ¬ k = 537 → ∀ b, rd h2 k b = rd h1 k b := fun hk => rd_same (d6 _ hk)
      rw [d5 0 (by decide), f0] at d1
      refine ⟨x, h1, h2, c1, j1, e1, d1, e2.trans e1, Or.inr ⟨⟨d2, pinv_of (hc := j2.2.pl fun k hk => d6 k (by omega)) (p := 537) (by decide) w_rg_537 rfl d4 (prs_eq d5 p1), pinv_of (hc := cq67) (p := 538) (by decide) w_rg_538 rfl g1 p1, 1, (yy (by decide) 2).trans ((rdF (b := 2) w_rg_13 (by decide) jF (by decide)).trans r5), (yy (by decide) 3).trans f536⟩, ?_⟩⟩
      refine ⟨fun b => (yy (by decide) b).trans (rdF (b := b) w_rg_42 (by decide) jF (by unfold ahit bq_u; rfl)), fun b => (yy (by decide) b).trans (rdF (b := b) w_rg_43 (by decide) jF (by unfold ahit bq_u; rfl)), fun b => (yy (by decide) b).trans (rdF (b := b) w_rg_44 (by decide) jF (by unfold ahit bq_u; rfl)), fun b => (yy (by decide) b).trans (rdF (b := b) w_rg_45 (by decide) jF (by unfold ahit bq_u; rfl)), fun b => (yy (by decide) b).trans (rdF (b := b) w_rg_46 (by decide) jF (by unfold ahit bq_u; rfl)), fun b => (yy (by decide) b).trans (rdF (b := b) w_rg_47 (by decide) jF (by unfold ahit bq_u; rfl)), fun b => (yy (by decide) b).trans (q3 b), (yy (by decide) 0).trans k0, (yy (by decide) 3).trans k3, fun i hi => (yy (by decide) i).trans (ka i hi), fun i hi => (yy (by decide) i).trans (kb i hi), fun i hi => (yy (by decide) i).trans (kc i hi), fun i hi => (yy (by decide) i).trans (kd i hi), fun i hi => (yy (by decide) i).trans (ke i hi), fun j hj => ?_⟩
      rw [rd_row d4 hj, d5 j hj, ← rd_row d3 hj]
      exact q3 j
