/-! image and undo of the model: what they leave -/
theorem cph_0 (h : XH) (t : Nat) (f g : Nat → Int32) (h2 : h.2.2 t = .inr (.inl (0, 490, g))) : cph h t f g 0 = h := by
  unfold cph
  refine Prod.ext rfl (Prod.ext rfl (funext fun j => ?_))
  by_cases hj : j = t
  · subst hj
    rw [xup_eq, h2]
    congr 5
  · rw [xup_ne _ _ hj]
theorem w_has {h : XH} (hI : AInv w_W h) {fs : List Value} (h1 : h.2.2 536 = .inl (7, fs)) : ∃ x : Int32, fs[3]? = some (.int x) ∧ 0 ≤ x.toInt ∧ x.toInt ≤ 1 := by
  obtain ⟨v, hv, hg⟩ := (hI.2.2 536 (by decide)).2 3 (avI 0 1) (by decide +kernel)
  obtain ⟨x, rfl, e1, e2⟩ := ga_int rfl hg
  unfold rd at hv
  rw [h1] at hv
  exact ⟨x, hv, e1, e2⟩
theorem cph_inv {h : XH} (hI : AInv w_W h) {t s : Nat} (ht : t = 537 ∨ t = 538) (hs : s = 537 ∨ s = 538) {f g : Nat → Int32} (h2 : h.2.2 s = .inr (.inl (0, 490, f))) : AInv w_W (cph h t f g 490) := w_rowset hI ht fun b a hb ha => by
  rw [if_pos hb]
  exact w_cell hI hs h2 hb ha
theorem im_ok (d : Nat) {h : XH} (hI : AInv w_W h) : ∃ (v : Value) (h1 : XH) (f f1 : Nat → Int32), XCall xM (d + 1) 180 [.ref 536] h (some v) h1 ∧ v = .int (f 0) ∧ AInv w_W h1 ∧ h.2.2 537 = .inr (.inl (0, 490, f)) ∧ h1.2.2 538 = .inr (.inl (0, 490, f1)) ∧ (∀ j, j < 490 → f1 j = f j) ∧ (∀ k, ¬ k = 538 → ¬ k = 536 → h1.2.2 k = h.2.2 k) ∧ (∀ b, ¬ b = 3 → rd h1 536 b = rd h 536 b) ∧ rd h1 536 3 = some (.int 1) := by
  obtain ⟨fs, h1, hs, hi, hl⟩ := w_mod hI
  obtain ⟨f, h2⟩ := w_row hI (Or.inl rfl)
  obtain ⟨g, h3⟩ := w_row hI (Or.inr rfl)
  have hN : h.1 = 549 := hI.1
  have e1 : (cph h 538 f g 490).2.2 536 = .inl (7, fs) := (xup_ne h _ (by decide)).trans h1
  have e2 : (cph h 538 f g 490).2.2 537 = .inr (.inl (0, 490, f)) := (xup_ne h _ (by decide)).trans h2
  have hI1 : AInv w_W (cph h 538 f g 490) := cph_inv hI (Or.inr rfl) (Or.inl rfl) h2
  have hW := wrote_field (h := cph h 538 f g 490) (k := 536) (ci := 7) (fs := fs) (b := 3) (v := .int 1) e1 (by omega)
  have hI2 := hI1.wrote hW (s := avI 0 1) (by decide +kernel) (ga_of rfl ⟨by decide, by decide⟩)
  have e3 : (xup (cph h 538 f g 490) 536 (.inl (7, fs.set 3 (.int 1)))).2.2 537 = .inr (.inl (0, 490, f)) := (xup_ne _ _ (by decide)).trans e2
  have e4 : (xup (cph h 538 f g 490) 536 (.inl (7, fs.set 3 (.int 1)))).2.2 536 = .inl (7, fs.set 3 (.int 1)) := xup_eq _ _ _
  refine ⟨.int (f (Int32.ofInt 0).toNatClampNeg), _, f, _, XCall.of (M := xm_X7_image) rfl (Nat.le_of_ble_eq_true rfl) ?_, by rw [show (Int32.ofInt 0).toNatClampNeg = 0 by decide], hI2, h2, (xup_ne _ _ (by decide)).trans (xup_eq _ _ _), fun j hj => if_pos hj, fun k k1 k2 => (xup_ne _ _ k2).trans (xup_ne _ _ k1), fun b hb => ?_, hW.2.2.1⟩
  · refine XGo.go 2 rfl ?_
    have q := img_loop d h fs f g hN h1 hs hi h2 (v := some (.int (f (Int32.ofInt 0).toNatClampNeg))) (hend := xup (cph h 538 f g 490) 536 (.inl (7, fs.set 3 (.int 1)))) (by
      refine XGo.go 2 rfl ?_
      refine XGo.putf rfl e1 (by show 536 < h.1; omega) (by decide) (by omega) rfl rfl ?_
      refine XGo.go 1 rfl ?_
      refine XGo.getf rfl (xfd_o e4 (by show 536 < h.1; omega) (by decide) (by rw [List.getElem?_set_ne (by decide)]; exact hs)) ?_
      refine XGo.go 1 rfl ?_
      refine XGo.iald rfl (xia_i e3 (by show 537 < h.1; omega) (by decide)) ?_
      exact XGo.iret _ rfl rfl .int rfl rfl) 490 0 rfl
    rw [cph_0 h 538 f g h3] at q
    exact q
  · rw [hW.2.2.2.1 536 b (fun hc => hb hc.2)]
    unfold rd
    rw [e1, h1]
theorem un_ok (d : Nat) {h : XH} (hI : AInv w_W h) : (rd h 536 3 = some (.int 0) ∧ XCall xM (d + 1) 181 [.ref 536] h (some (.int (Int8.ofInt (-3)).toInt32)) h) ∨ ∃ (v : Value) (h1 : XH) (f f1 : Nat → Int32), XCall xM (d + 1) 181 [.ref 536] h (some v) h1 ∧ v = .int (f1 0) ∧ AInv w_W h1 ∧ rd h 536 3 = some (.int 1) ∧ h.2.2 538 = .inr (.inl (0, 490, f)) ∧ h1.2.2 537 = .inr (.inl (0, 490, f1)) ∧ (∀ j, j < 490 → f1 j = f j) ∧ (∀ k, ¬ k = 537 → h1.2.2 k = h.2.2 k) := by
  obtain ⟨fs, h1, hs, hi, hl⟩ := w_mod hI
  obtain ⟨g, h2⟩ := w_row hI (Or.inl rfl)
  obtain ⟨f, h3⟩ := w_row hI (Or.inr rfl)
  obtain ⟨x, hx, x1, x2⟩ := w_has hI h1
  have hN : h.1 = 549 := hI.1
  have hr : rd h 536 3 = some (.int x) := by unfold rd; rw [h1]; exact hx
  rcases i32_01 x1 x2 with rfl | rfl
  · refine Or.inl ⟨hr, XCall.of (M := xm_X7_undo) rfl (Nat.le_of_ble_eq_true rfl) ?_⟩
    refine XGo.go 1 rfl ?_
    refine XGo.getf rfl (xfd_o h1 (by omega) (by decide) hx) ?_
    refine XGo.go 1 rfl ?_
    refine XGo.ifp rfl ?_
    refine XGo.go 1 rfl ?_
    exact XGo.iret _ rfl rfl .int rfl rfl
  · have e1 : (cph h 537 f g 490).2.2 536 = .inl (7, fs) := (xup_ne h _ (by decide)).trans h1
    have e3 : (cph h 537 f g 490).2.2 537 = .inr (.inl (0, 490, fun j => if j < 490 then f j else g j)) := xup_eq _ _ _
    have hI1 : AInv w_W (cph h 537 f g 490) := cph_inv hI (Or.inl rfl) (Or.inr rfl) h3
    refine Or.inr ⟨.int ((fun j => if j < 490 then f j else g j) (Int32.ofInt 0).toNatClampNeg), _, f, _, XCall.of (M := xm_X7_undo) rfl (Nat.le_of_ble_eq_true rfl) ?_, by rw [show (Int32.ofInt 0).toNatClampNeg = 0 by decide], hI1, hr, h3, xup_eq _ _ _, fun j hj => if_pos hj, fun k k1 => xup_ne _ _ k1⟩
    refine XGo.go 1 rfl ?_
    refine XGo.getf rfl (xfd_o h1 (by omega) (by decide) hx) ?_
    refine XGo.go 1 rfl ?_
    refine XGo.ifn (by decide) ?_
    refine XGo.go 2 rfl ?_
    have q := und_loop d h fs f g hN h1 hi hs h3 (v := some (.int ((fun j => if j < 490 then f j else g j) (Int32.ofInt 0).toNatClampNeg))) (hend := cph h 537 f g 490) (by
      refine XGo.go 1 rfl ?_
      refine XGo.getf rfl (xfd_o e1 (by show 536 < h.1; omega) (by decide) hs) ?_
      refine XGo.go 1 rfl ?_
      refine XGo.iald rfl (xia_i e3 (by show 537 < h.1; omega) (by decide)) ?_
      exact XGo.iret _ rfl rfl .int rfl rfl) 490 0 rfl
    rw [cph_0 h 537 f g h2] at q
    exact q
