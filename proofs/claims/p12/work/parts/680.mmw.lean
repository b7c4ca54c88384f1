theorem cell1 : shA (w_S 66) 1 = some (avI 0 6) := by decide +kernel
theorem cellW : ((List.range 6).all fun i => decide (shA (w_S 66) (116 + i) = some (avI 0 13)) && decide (shA (w_S 66) (122 + i) = some avT)) = true := by decide +kernel
theorem cellW1 {i : Nat} (hi : i < 6) : shA (w_S 66) (116 + i) = some (avI 0 13) := by
  have k := List.all_eq_true.mp cellW i (List.mem_range.mpr hi)
  simp only [Bool.and_eq_true, decide_eq_true_eq] at k
  exact k.1
theorem cellW2 {i : Nat} (hi : i < 6) : shA (w_S 66) (122 + i) = some avT := by
  have k := List.all_eq_true.mp cellW i (List.mem_range.mpr hi)
  simp only [Bool.and_eq_true, decide_eq_true_eq] at k
  exact k.2
/-- a cell of the model's row written, as a whole -/
theorem sp_ok {h : XH} (hI : AInv w_W h) {fs : List Value} {f : Nat → Int32} (h1 : h.2.2 536 = .inl (7, fs)) (h2 : h.2.2 537 = .inr (.inl (0, 490, f))) {b : Nat} {x : Int32} (hb : b < 490) {s : AV} (hs : shA (w_S 66) b = some s) (hx : ga w_W s (.int x)) : ∃ h' : XH, AInv w_W h' ∧ AFr w_W [(66, (b : Int), (b : Int))] h h' ∧ h'.2.2 536 = .inl (7, fs) ∧ h'.2.2 537 = .inr (.inl (0, 490, upd f b x)) ∧ ∀ {d : Nat} {M : XMeth} {pc len w a b2 : Nat} {L : XL} {st : List Value} {v : Option Value} {hend : XH}, xfind (xmT M) pc = some (pc, .iastore, len, a, b2, w) → XGo d M (pc + 1, L, st, h') v hend → XGo d M (pc, L, .int x :: .int (nI b) :: .ref 537 :: st, h) v hend := by
  obtain ⟨iA, fA⟩ := w_sput hI h2 hb hs hx
  have hN : h.1 = 549 := hI.1
  refine ⟨_, iA, fA, (xup_ne _ _ (by decide)).trans h1, xup_eq _ _ _, fun {d M pc len w a b2 L st v hend} hm k => ?_⟩
  refine XGo.iast hm h2 (by omega) (by decide) (fun q => q.elim (xnI_lt0 (by omega)) (fun z => by rw [xnI_nat (by omega)] at z; omega)) ?_
  rw [xnI_nat (by omega)]
  exact k
def mw_m : AWr := [(66, 1, 1), (66, 110, 115), (66, 116, 121), (66, 122, 127)]
set_option maxRecDepth 100000 in
theorem mmgood {h : XH} (hI : AInv w_W h) (hP : PInv w_W w_P h []) {m : Nat} (hm : m < 6) {fs : List Value} {f : Nat → Int32} (h1 : h.2.2 536 = .inl (7, fs)) (hs : fs[1]? = some (.ref 537)) (h2 : h.2.2 537 = .inr (.inl (0, 490, f))) (hf1 : f 1 = nI m) (a w y : Int32) (hw : 0 ≤ w.toInt ∧ w.toInt ≤ 13) (h3 : a.toInt = 3 → w.toInt ≤ 3) : ∃ h1, XGo 8 xm_X7_maybe (63, [some (.ref 536), some (.int a), some (.int w), some (.int y), none], [], h) (some (.int (nI m))) h1 ∧ AInv w_W h1 ∧ PInv w_W w_P h1 [] ∧ AFr w_W mw_m h h1 ∧ h1.2.2 537 = .inr (.inl (0, 490, upd (upd (upd (upd f (110 + m) a) (116 + m) w) (122 + m) y) 1 (nI (m + 1)))) := by
  have hN : h.1 = 549 := hI.1
  have hpr := pinv_to (by decide) w_rg_537 h2 hP
  obtain ⟨A, iA, fA, A1, A2, gA⟩ := sp_ok hI h1 h2 (b := 110 + m) (x := a) (by omega) (cellA (by omega) (by omega)) (ga_of rfl (gi_T a))
  obtain ⟨B, iB, fB, B1, B2, gB⟩ := sp_ok iA A1 A2 (b := 116 + m) (x := w) (by omega) (cellW1 hm) (ga_of rfl hw)
  obtain ⟨C, iC, fC, C1, C2, gC⟩ := sp_ok iB B1 B2 (b := 122 + m) (x := y) (by omega) (cellW2 hm) (ga_of rfl (gi_T y))
  have e1 : nI m + Int32.ofInt 1 = nI (m + 1) := nI_1 m
  have e9 : (nI (m + 1)).toInt = ((m + 1 : Nat) : Int) := nI_toInt (by omega)
  obtain ⟨D, iD, fD, D1, D2, gD⟩ := sp_ok iC C1 C2 (b := 1) (x := nI (m + 1)) (by omega) cell1 (ga_of rfl ⟨show (0 : Int) ≤ (nI (m + 1)).toInt by rw [e9]; omega, show (nI (m + 1)).toInt ≤ (6 : Int) by rw [e9]; omega⟩)
  have AN : A.1 = 549 := iA.1
  have BN : B.1 = 549 := iB.1
  have CN : C.1 = 549 := iC.1
  have s0 : xia h 0 537 (Int32.ofInt 1) = some (nI m) := by rw [← hf1]; exact xia_i h2 (by omega) (by decide)
  have s3 : xia C 0 537 (Int32.ofInt 1) = some (nI m) := by
    rw [xia_i C2 (by omega) (by decide)]
    show some (upd (upd (upd f (110 + m) a) (116 + m) w) (122 + m) y 1) = _
    rw [upd_ne (by omega), upd_ne (by omega), upd_ne (by omega), hf1]
  have pD : prs (upd (upd (upd (upd f (110 + m) a) (116 + m) w) (122 + m) y) 1 (nI (m + 1))) := by
    refine ⟨fun k hk => ?_, fun i hi => ⟨?_, ?_⟩⟩
    · unfold prF
      rw [upd_ne (by omega), upd_ne (by omega), upd_ne (by omega)]
      by_cases hkm : k = m
      · subst hkm
        rw [upd_at, upd_ne (n := 1) (by omega), upd_ne (n := 122 + k) (by omega), upd_at]
        exact fun z => ⟨hw.1, h3 z⟩
      · rw [upd_ne (by omega), upd_ne (n := 1) (by omega), upd_ne (n := 122 + m) (by omega), upd_ne (n := 116 + m) (by omega), upd_ne (n := 110 + m) (by omega)]
        exact hpr.1 k hk
    · unfold prF
      rw [upd_ne (by omega), upd_ne (by omega), upd_ne (by omega), upd_ne (by omega), upd_ne (by omega), upd_ne (by omega), upd_ne (by omega), upd_ne (by omega)]
      exact (hpr.2 i hi).1
    · unfold prF
      rw [upd_ne (by omega), upd_ne (by omega), upd_ne (by omega), upd_ne (by omega), upd_ne (by omega), upd_ne (by omega), upd_ne (by omega), upd_ne (by omega)]
      exact (hpr.2 i hi).2
  refine ⟨D, ?_, iD, pinv_of (hc := (((hP.2.r66 fA).r66 fB).r66 fC).r66 fD) (p := 537) (by decide) w_rg_537 rfl D2 pD, (((fA.one (ws := mw_m) (lo := 110) (hi := 115) (by decide) (by omega) (by omega)).trans (fB.one (lo := 116) (hi := 121) (by decide) (by omega) (by omega))).trans (fC.one (lo := 122) (hi := 127) (by decide) (by omega) (by omega))).trans (fD.one (lo := 1) (hi := 1) (by decide) (by omega) (by omega)), D2⟩
  refine XGo.go 1 rfl ?_
  refine XGo.getf rfl (xfd_o h1 (by omega) (by decide) hs) ?_
  refine XGo.go 1 rfl ?_
  refine XGo.iald rfl s0 ?_
  refine XGo.go 2 rfl ?_
  refine XGo.getf rfl (xfd_o h1 (by omega) (by decide) hs) ?_
  refine XGo.go 4 rfl ?_
  show XGo _ _ (81, _, [.int a, .int ((Int8.ofInt 110).toInt32 + nI m), .ref 537], _) _ _
  rw [show (Int8.ofInt 110).toInt32 + nI m = nI (110 + m) from nI_add 110 m]
  refine gA rfl ?_
  refine XGo.go 1 rfl ?_
  refine XGo.getf rfl (xfd_o A1 (by omega) (by decide) hs) ?_
  refine XGo.go 4 rfl ?_
  show XGo _ _ (92, _, [.int w, .int ((Int8.ofInt 116).toInt32 + nI m), .ref 537], _) _ _
  rw [show (Int8.ofInt 116).toInt32 + nI m = nI (116 + m) from nI_add 116 m]
  refine gB rfl ?_
  refine XGo.go 1 rfl ?_
  refine XGo.getf rfl (xfd_o B1 (by omega) (by decide) hs) ?_
  refine XGo.go 4 rfl ?_
  show XGo _ _ (103, _, [.int y, .int ((Int8.ofInt 122).toInt32 + nI m), .ref 537], _) _ _
  rw [show (Int8.ofInt 122).toInt32 + nI m = nI (122 + m) from nI_add 122 m]
  refine gC rfl ?_
  refine XGo.go 1 rfl ?_
  refine XGo.getf rfl (xfd_o C1 (by omega) (by decide) hs) ?_
  refine XGo.go 2 rfl ?_
  refine XGo.iald rfl s3 ?_
  refine XGo.go 2 rfl ?_
  show XGo _ _ (_, _, [.int (nI m + Int32.ofInt 1), .int (Int32.ofInt 1), .ref 537], _) _ _
  rw [e1]
  refine gD rfl ?_
  refine XGo.go 1 rfl ?_
  exact XGo.iret _ rfl rfl .int rfl rfl
