theorem prs_upd {f : Nat → Int32} (hs : prs f) {b : Nat} {x : Int32} (hb : b < 110) : prs (upd f b x) := by
  refine ⟨fun m hm => ?_, fun i hi => ⟨?_, ?_⟩⟩
  · unfold prF
    rw [upd_ne (by omega), upd_ne (by omega)]
    exact hs.1 m hm
  · unfold prF
    rw [upd_ne (by omega), upd_ne (by omega)]
    exact (hs.2 i hi).1
  · unfold prF
    rw [upd_ne (by omega), upd_ne (by omega)]
    exact (hs.2 i hi).2
/-- cells of the model's row that may be any -/
theorem cellA_b : ((List.range 490).all fun b => (decide (shA (w_S 66) b = some avT) || Nat.blt b 5) || ((Nat.ble 116 b && Nat.blt b 122) || (Nat.ble 130 b && (Nat.blt b 136 || (Nat.ble 140 b && Nat.blt b 428))))) = true := by decide +kernel
theorem cellA {b : Nat} (h1 : 5 ≤ b) (h2 : b < 116) : shA (w_S 66) b = some avT := by
  have k := List.all_eq_true.mp cellA_b b (List.mem_range.mpr (by omega))
  simp only [Bool.or_eq_true, Bool.and_eq_true, decide_eq_true_eq] at k
  rcases k with (k | k) | k
  · exact k
  · have := Nat.le_of_ble_eq_true k
    omega
  · rcases k with ⟨k, -⟩ | ⟨k, -⟩
    · have := Nat.le_of_ble_eq_true k
      omega
    · have := Nat.le_of_ble_eq_true k
      omega
theorem cell0 : shA (w_S 66) 0 = some (avI 0 8) := by decide +kernel
/-- one cell of the model's row written -/
theorem w_sput {h : XH} (hI : AInv w_W h) {f : Nat → Int32} (hf : h.2.2 537 = .inr (.inl (0, 490, f))) {b : Nat} {x : Int32} (hb : b < 490) {s : AV} (hs : shA (w_S 66) b = some s) (hx : ga w_W s (.int x)) : AInv w_W (xup h 537 (.inr (.inl (0, 490, upd f b x)))) ∧ AFr w_W [(66, (b : Int), (b : Int))] h (xup h 537 (.inr (.inl (0, 490, upd f b x)))) := by
  have hW := wrote_int (h := h) (k := 537) (b := b) (x := x) hf hb
  refine ⟨hI.wrote hW (s := s) ?_ hx, AFr.wrote (i := (b : Int)) (j := (b : Int)) hW (Int.le_refl _) (Int.le_refl _) ⟨_, List.mem_singleton.mpr rfl, ((w_W1 537).trans w_rg_537).symm, Int.le_refl _, Int.le_refl _⟩⟩
  rw [w_Sg, w_rg_537]
  exact hs
set_option maxRecDepth 100000 in
theorem mgood {h : XH} (hI : AInv w_W h) (hP : PInv w_W w_P h []) {n : Nat} (hn : n < 8) (h0 : rd h 537 0 = some (.int (nI n))) (a p : Int32) : ∃ h1, XGo 8 xm_X7_person (71, [some (.ref 536), some (.int a), some (.int p)], [], h) (some (.int (nI n))) h1 ∧ AInv w_W h1 ∧ PInv w_W w_P h1 [] ∧ AFr w_W [(66, 0, 0), (66, 90, 97), (66, 100, 107)] h h1 ∧ ∃ f f1 : Nat → Int32, h.2.2 537 = .inr (.inl (0, 490, f)) ∧ h1.2.2 537 = .inr (.inl (0, 490, f1)) ∧ f1 = upd (upd (upd f (90 + n) a) (100 + n) p) 0 (nI (n + 1)) := by
  obtain ⟨fs, h1, hs, -, -⟩ := w_mod hI
  obtain ⟨f, h2⟩ := w_row hI (Or.inl rfl)
  have hN : h.1 = 549 := hI.1
  have f0 : f 0 = nI n := by
    rw [rd_row h2 (by decide)] at h0
    exact Value.int.inj (Option.some.inj h0)
  have hpr := pinv_to (by decide) w_rg_537 h2 hP
  obtain ⟨iA, fA⟩ := w_sput hI h2 (b := 90 + n) (x := a) (by omega) (cellA (by omega) (by omega)) (ga_of rfl (gi_T a))
  generalize hA : xup h 537 (.inr (.inl (0, 490, upd f (90 + n) a))) = A at iA fA
  have A1 : A.2.2 536 = .inl (7, fs) := by rw [← hA]; exact (xup_ne _ _ (by decide)).trans h1
  have A2 : A.2.2 537 = .inr (.inl (0, 490, upd f (90 + n) a)) := by rw [← hA]; exact xup_eq _ _ _
  have AN : A.1 = 549 := iA.1
  obtain ⟨iB, fB⟩ := w_sput iA A2 (b := 100 + n) (x := p) (by omega) (cellA (by omega) (by omega)) (ga_of rfl (gi_T p))
  generalize hB : xup A 537 (.inr (.inl (0, 490, upd (upd f (90 + n) a) (100 + n) p))) = B at iB fB
  have B1 : B.2.2 536 = .inl (7, fs) := by rw [← hB]; exact (xup_ne _ _ (by decide)).trans A1
  have B2 : B.2.2 537 = .inr (.inl (0, 490, upd (upd f (90 + n) a) (100 + n) p)) := by rw [← hB]; exact xup_eq _ _ _
  have BN : B.1 = 549 := iB.1
  have e1 : nI n + Int32.ofInt 1 = nI (n + 1) := nI_1 n
  have e9 : (nI (n + 1)).toInt = ((n + 1 : Nat) : Int) := nI_toInt (by omega)
  obtain ⟨iC, fC⟩ := w_sput iB B2 (b := 0) (x := nI (n + 1)) (by omega) cell0 (ga_of rfl ⟨show (0 : Int) ≤ (nI (n + 1)).toInt by rw [e9]; omega, show (nI (n + 1)).toInt ≤ (8 : Int) by rw [e9]; omega⟩)
  generalize hC : xup B 537 (.inr (.inl (0, 490, upd (upd (upd f (90 + n) a) (100 + n) p) 0 (nI (n + 1))))) = C at iC fC
  have C1 : C.2.2 536 = .inl (7, fs) := by rw [← hC]; exact (xup_ne _ _ (by decide)).trans B1
  have C2 : C.2.2 537 = .inr (.inl (0, 490, upd (upd (upd f (90 + n) a) (100 + n) p) 0 (nI (n + 1)))) := by rw [← hC]; exact xup_eq _ _ _
  have CN : C.1 = 549 := iC.1
  have ca : ∀ {k : Nat}, k < 490 → ¬ (nI k < 0 ∨ 490 ≤ (nI k).toNatClampNeg) := fun {k} hk q => q.elim (xnI_lt0 (by omega)) (fun z => by rw [xnI_nat (by omega)] at z; omega)
  have s0 : xia h 0 537 (Int32.ofInt 0) = some (nI n) := by rw [← f0]; exact xia_i h2 (by omega) (by decide)
  have s1 : xia A 0 537 (Int32.ofInt 0) = some (nI n) := by
    rw [xia_i A2 (by omega) (by decide)]
    show some (upd f (90 + n) a 0) = _
    rw [upd_ne (by omega), f0]
  have s2 : xia B 0 537 (Int32.ofInt 0) = some (nI n) := by
    rw [xia_i B2 (by omega) (by decide)]
    show some (upd (upd f (90 + n) a) (100 + n) p 0) = _
    rw [upd_ne (by omega), upd_ne (by omega), f0]
  have s3 : xia C 0 537 (Int32.ofInt 0) = some (nI (n + 1)) := by
    rw [xia_i C2 (by omega) (by decide)]
    show some (upd (upd (upd f (90 + n) a) (100 + n) p) 0 (nI (n + 1)) 0) = _
    rw [upd_at]
  refine ⟨C, ?_, iC, pinv_of (hc := ((hP.2.r66 fA).r66 fB).r66 fC) (p := 537) (by decide) w_rg_537 rfl C2 (prs_upd (prs_upd (prs_upd hpr (by omega)) (by omega)) (by omega)), ?_, f, _, h2, C2, rfl⟩
  · refine XGo.go 1 rfl ?_
    refine XGo.getf rfl (xfd_o h1 (by omega) (by decide) hs) ?_
    refine XGo.go 2 rfl ?_
    refine XGo.getf rfl (xfd_o h1 (by omega) (by decide) hs) ?_
    refine XGo.go 1 rfl ?_
    refine XGo.iald rfl s0 ?_
    refine XGo.go 2 rfl ?_
    show XGo _ _ (85, _, [.int a, .int ((Int8.ofInt 90).toInt32 + nI n), .ref 537], _) _ _
    rw [show (Int8.ofInt 90).toInt32 + nI n = nI (90 + n) from nI_add 90 n]
    refine XGo.iast rfl h2 (by omega) (by decide) (ca (by omega)) ?_
    rw [xnI_nat (by omega), hA]
    refine XGo.go 1 rfl ?_
    refine XGo.getf rfl (xfd_o A1 (by omega) (by decide) hs) ?_
    refine XGo.go 2 rfl ?_
    refine XGo.getf rfl (xfd_o A1 (by omega) (by decide) hs) ?_
    refine XGo.go 1 rfl ?_
    refine XGo.iald rfl s1 ?_
    refine XGo.go 2 rfl ?_
    show XGo _ _ (100, _, [.int p, .int ((Int8.ofInt 100).toInt32 + nI n), .ref 537], _) _ _
    rw [show (Int8.ofInt 100).toInt32 + nI n = nI (100 + n) from nI_add 100 n]
    refine XGo.iast rfl A2 (by omega) (by decide) (ca (by omega)) ?_
    rw [xnI_nat (by omega), hB]
    refine XGo.go 1 rfl ?_
    refine XGo.getf rfl (xfd_o B1 (by omega) (by decide) hs) ?_
    refine XGo.go 2 rfl ?_
    refine XGo.iald rfl s2 ?_
    refine XGo.go 2 rfl ?_
    show XGo _ _ (_, _, [.int (nI n + Int32.ofInt 1), .int (Int32.ofInt 0), .ref 537], _) _ _
    rw [e1]
    refine XGo.iast rfl B2 (by omega) (by decide) (by decide) ?_
    show XGo _ _ (111, _, [], xup B 537 (.inr (.inl (0, 490, upd (upd (upd f (90 + n) a) (100 + n) p) 0 (nI (n + 1)))))) _ _
    rw [hC]
    refine XGo.go 1 rfl ?_
    refine XGo.getf rfl (xfd_o C1 (by omega) (by decide) hs) ?_
    refine XGo.go 1 rfl ?_
    refine XGo.iald rfl s3 ?_
    refine XGo.go 2 rfl ?_
    rw [← e1]
    show XGo _ _ (_, _, [.int (nI n + Int32.ofInt 1 - Int32.ofInt 1)], _) _ _
    rw [nI_pm (by omega)]
    exact XGo.iret _ rfl rfl .int rfl rfl
  · refine AFr.trans (AFr.trans (fA.mono fun w hw => ?_) (fB.mono fun w hw => ?_)) (fC.mono fun w hw => ?_)
    · rw [List.mem_singleton.mp hw]
      exact ⟨(66, 90, 97), by decide, rfl, by show (90 : Int) ≤ ((90 + n : Nat) : Int); omega, by show ((90 + n : Nat) : Int) ≤ 97; omega⟩
    · rw [List.mem_singleton.mp hw]
      exact ⟨(66, 100, 107), by decide, rfl, by show (100 : Int) ≤ ((100 + n : Nat) : Int); omega, by show ((100 + n : Nat) : Int) ≤ 107; omega⟩
    · rw [List.mem_singleton.mp hw]
      exact ⟨(66, 0, 0), by decide, rfl, Int.le_refl _, Int.le_refl _⟩
