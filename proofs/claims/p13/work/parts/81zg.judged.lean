/-! row and judged on both sides -/
abbrev i41 : Int32 := (Int8.ofInt 41).toInt32
/-- a set comes to a row of R numbers -/
abbrev rwP (R : Nat) (s : Int32) : Prop := ¬ s = m1 ∧ (0 ≤ s.toInt ∧ s.toInt ≤ 16383) ∧ R < 41
def rwN (R : Nat) (s : Int32) : Nat := if s = m1 then 0 else if rwP R s then R + 1 else R
def rwV (R : Nat) (s : Int32) : Int32 := if s = m1 then Int32.ofInt 0 else if ¬ (0 ≤ s.toInt ∧ s.toInt ≤ 16383) then i2m else if ¬ R < 41 then (Int8.ofInt (-4)).toInt32 else nI (R + 1)
section RW2
variable {h : XH}
set_option maxRecDepth 100000 in
theorem k_crow (d : Nat) (hI : AInv w_W h) {R : Nat} (hR : R ≤ 41) (h11 : rd h 14 11 = some (.int (nI R))) (s : Int32) : ∃ h1 : XH, XCall xM (d + 2) 74 [.ref 13, .int s] h (some (.int (rwV R s))) h1 ∧ rd h1 14 11 = some (.int (nI (rwN R s))) ∧ (∀ i, i < rwN R s → rd h1 22 i = if rwP R s ∧ i = R then some (.int s) else rd h 22 i) ∧ ∀ z, ¬ z = 14 → ¬ z = 22 → h1.2.2 z = h.2.2 z := by
  obtain ⟨fs, o13, -, -⟩ := w_obj hI (k := 13) (by decide) w_rg_13 k13S
  obtain ⟨fw, o14, l14, -⟩ := w_obj hI (k := 14) (by decide) w_rg_14 k14s
  have f0 := ref_at hI (by decide) w_rg_13 k13S (b := 0) rfl rfl w_rg_14 (by decide) o13
  have w11 : fw[11]? = some (.int (nI R)) := (rd_fld o14).symm.trans h11
  have w12 := ref_at hI (by decide) w_rg_14 k14s (b := 12) rfl rfl w_rg_y.1.1 (by decide) o14
  obtain ⟨ra, o22⟩ := w_ints hI (k := 22) (by decide) w_rg_y.1.1 (show w_S 22 = (1, 0, 41, [], w_s22.2.2.2.2) from rfl)
  have hN : h.1 = 549 := hI.1
  have l15 : fw.length = 15 := l14
  have entry : ∀ {v : Option Value} {hend : XH}, XGo (d + 1) xm_X6_row (if s = m1 then 5 else 15, [some (.ref 13), some (.int s)], [], h) v hend → XCall xM (d + 2) 74 [.ref 13, .int s] h v hend := fun g => XCall.of (M := xm_X6_row) rfl (Nat.le_of_ble_eq_true rfl) (XGo.go 3 rfl g)
  by_cases s1 : s = m1
  · have eN : rwN R s = 0 := if_pos s1
    refine ⟨xup h 14 (.inl (5, fw.set 11 (.int (Int32.ofInt 0)))), entry (XGo.ifp s1 ?_), ?_, fun i hi => absurd hi (by omega), fun z h1 _ => xup_ne _ _ h1⟩
    · rw [show rwV R s = Int32.ofInt 0 from if_pos s1]
      refine XGo.go 1 rfl ?_
      refine XGo.getf rfl (xfd_o o13 (xlt hN (by decide)) (by decide) f0) ?_
      refine XGo.go 1 rfl ?_
      refine XGo.putf rfl o14 (xlt hN (by decide)) (by decide) (by omega) rfl rfl ?_
      refine XGo.go 1 rfl ?_
      exact XGo.iret _ rfl rfl .int rfl rfl
    · rw [eN]
      exact (rd_fld (xup_eq _ _ _)).trans (List.getElem?_set_self (by omega))
  · have bad : ∀ {v : Int32}, v = i2m → XGo (d + 1) xm_X6_row (26, [some (.ref 13), some (.int s)], [], h) (some (.int v)) h := fun e => by
      rw [e]
      refine XGo.go 1 rfl ?_
      exact XGo.iret _ rfl rfl .int rfl rfl
    have same : ¬ rwP R s → rwN R s = R := fun q => (if_neg s1).trans (if_neg q)
    have keep : ¬ rwP R s → ∀ i, i < rwN R s → rd h 22 i = if rwP R s ∧ i = R then some (.int s) else rd h 22 i := fun q i _ => (if_neg fun z => q z.1).symm
    have c3 : ((Int16.ofInt 16384).toInt32).toInt = 16384 := by decide
    by_cases s0 : s < 0
    · have := lt0_iff.mp s0
      have q : ¬ rwP R s := fun z => by have := z.2.1.1; omega
      refine ⟨h, entry (XGo.ifn s1 ?_), by rw [same q]; exact h11, keep q, fun _ _ _ => rfl⟩
      refine XGo.go 2 rfl ?_
      exact XGo.ifp s0 (bad ((if_neg s1).trans (if_pos fun z => by have := z.1; omega)))
    · have e0 : ¬ s.toInt < 0 := fun z => s0 (lt0_iff.mpr z)
      by_cases s2 : s < (Int16.ofInt 16384).toInt32
      · have t2 := Int32.lt_iff_toInt_lt.mp s2
        rw [c3] at t2
        have in16 : 0 ≤ s.toInt ∧ s.toInt ≤ 16383 := ⟨by omega, by omega⟩
        have to41 : ∀ {v : Option Value} {hend : XH}, XGo (d + 1) xm_X6_row (if nI R < i41 then 44 else 41, [some (.ref 13), some (.int s)], [], h) v hend → XCall xM (d + 2) 74 [.ref 13, .int s] h v hend := fun {v hend} g => by
          refine entry (XGo.ifn s1 ?_)
          refine XGo.go 2 rfl ?_
          refine XGo.ifn s0 ?_
          refine XGo.go 3 rfl ?_
          refine XGo.ifp s2 ?_
          refine XGo.go 1 rfl ?_
          refine XGo.getf rfl (xfd_o o13 (xlt hN (by decide)) (by decide) f0) ?_
          refine XGo.getf rfl (xfd_o o14 (xlt hN (by decide)) (by decide) w11) ?_
          exact XGo.go 2 rfl g
        have c41 : nI R < i41 ↔ R < 41 := by
          rw [Int32.lt_iff_toInt_lt, nI_toInt (by omega), show i41.toInt = 41 by decide]
          omega
        by_cases r4 : R < 41
        · have P : rwP R s := ⟨s1, in16, r4⟩
          have eN : rwN R s = R + 1 := (if_neg s1).trans (if_pos P)
          let A : XH := xup h 22 (.inr (.inl (0, 41, upd ra R s)))
          have An : ∀ z, ¬ z = 22 → A.2.2 z = h.2.2 z := fun z hz => xup_ne _ _ hz
          let B : XH := xup A 14 (.inl (5, fw.set 11 (.int (nI (R + 1)))))
          have B14 : B.2.2 14 = .inl (5, fw.set 11 (.int (nI (R + 1)))) := xup_eq _ _ _
          have Bn : ∀ z, ¬ z = 14 → B.2.2 z = A.2.2 z := fun z hz => xup_ne _ _ hz
          have A14 : A.2.2 14 = .inl (5, fw) := (An 14 (by decide)).trans o14
          have A13 := (An 13 (by decide)).trans o13
          have B13 := (Bn 13 (by decide)).trans A13
          have q1 := k_put_in d h 22 41 ra (nI R) s o22 (xlt hN (by decide)) (by decide) (by decide) (ca_nI r4 (by decide))
          rw [xnI_nat (by omega)] at q1
          have z11 : (fw.set 11 (.int (nI (R + 1))))[11]? = some (.int (nI (R + 1))) := List.getElem?_set_self (by omega)
          refine ⟨B, to41 (XGo.ifp (c41.mpr r4) ?_), by rw [eN, rd_fld B14, z11], fun i hi => ?_, fun z h1 h2 => (Bn z h1).trans (An z h2)⟩
          · rw [show rwV R s = nI (R + 1) from (if_neg s1).trans ((if_neg fun z => z in16).trans (if_neg fun z => z r4))]
            refine XGo.go 1 rfl ?_
            refine XGo.getf rfl (xfd_o o13 (xlt hN (by decide)) (by decide) f0) ?_
            refine XGo.getf rfl (xfd_o o14 (xlt hN (by decide)) (by decide) w12) ?_
            refine XGo.go 1 rfl ?_
            refine XGo.getf rfl (xfd_o o13 (xlt hN (by decide)) (by decide) f0) ?_
            refine XGo.getf rfl (xfd_o o14 (xlt hN (by decide)) (by decide) w11) ?_
            refine XGo.go 1 rfl ?_
            refine XGo.call _ rfl xm_X6_put rfl rfl [.ref 22, .int (nI R), .int s] [] rfl rfl (fun z => absurd rfl z) (Nat.le_of_ble_eq_true rfl) q1 ?_
            show XGo _ _ (62, _, [], A) _ _
            refine XGo.go 1 rfl ?_
            refine XGo.getf rfl (xfd_o A13 (xlt (h := A) hN (by decide)) (by decide) f0) ?_
            refine XGo.go 1 rfl ?_
            refine XGo.getf rfl (xfd_o A14 (xlt (h := A) hN (by decide)) (by decide) w11) ?_
            refine XGo.go 2 rfl ?_
            refine XGo.top (nI_1 R) ?_
            refine XGo.putf rfl A14 (xlt (h := A) hN (by decide)) (by decide) (by omega) rfl rfl ?_
            show XGo _ _ (75, _, [], B) _ _
            refine XGo.go 1 rfl ?_
            refine XGo.getf rfl (xfd_o B13 (xlt (h := B) hN (by decide)) (by decide) f0) ?_
            refine XGo.getf rfl (xfd_o B14 (xlt (h := B) hN (by decide)) (by decide) z11) ?_
            exact XGo.iret _ rfl rfl .int rfl rfl
          · have b22 : B.2.2 22 = .inr (.inl (0, 41, upd ra R s)) := (Bn 22 (by decide)).trans (xup_eq _ _ _)
            rw [rd_ints b22 (show i < 41 by omega), rd_ints o22 (show i < 41 by omega)]
            by_cases e : i = R
            · rw [if_pos ⟨P, e⟩, e, upd_at]
            · rw [if_neg fun z => e z.2, upd_ne e]
        · have q : ¬ rwP R s := fun z => r4 z.2.2
          refine ⟨h, to41 (XGo.ifn (fun z => r4 (c41.mp z)) ?_), by rw [same q]; exact h11, keep q, fun _ _ _ => rfl⟩
          rw [show rwV R s = (Int8.ofInt (-4)).toInt32 from (if_neg s1).trans ((if_neg fun z => z in16).trans (if_pos r4))]
          refine XGo.go 1 rfl ?_
          exact XGo.iret _ rfl rfl .int rfl rfl
      · have t2 : ¬ s.toInt < 16384 := fun z => s2 (Int32.lt_iff_toInt_lt.mpr (by rw [c3]; exact z))
        have q : ¬ rwP R s := fun z => by have := z.2.1.2; omega
        refine ⟨h, entry (XGo.ifn s1 ?_), by rw [same q]; exact h11, keep q, fun _ _ _ => rfl⟩
        refine XGo.go 2 rfl ?_
        refine XGo.ifn s0 ?_
        refine XGo.go 3 rfl ?_
        exact XGo.ifn s2 (bad ((if_neg s1).trans (if_pos fun z => by have := z.2; omega)))
set_option maxRecDepth 100000 in
theorem k_mrow (d : Nat) {e f : Nat → Int32} (hN : h.1 = 549) (o36 : h.2.2 536 = .inl (7, mO e)) (hf : h.2.2 537 = .inr (.inl (0, 490, f))) {R : Nat} (hR : R ≤ 41) (f3 : f 3 = nI R) (s : Int32) : ∃ h1 : XH, XCall xM (d + 2) 154 [.ref 536, .int s] h (some (.int (rwV R s))) h1 ∧ rd h1 537 3 = some (.int (nI (rwN R s))) ∧ (∀ i, i < rwN R s → rd h1 537 (440 + i) = if rwP R s ∧ i = R then some (.int s) else rd h 537 (440 + i)) ∧ ∀ z, ¬ z = 537 → h1.2.2 z = h.2.2 z := by
  have h3 : rd h 537 3 = some (.int (nI R)) := (rd_row hf (by decide)).trans (by rw [f3])
  have entry : ∀ {v : Option Value} {hend : XH}, XGo (d + 1) xm_X7_row (if s = m1 then 5 else 14, [some (.ref 536), some (.int s)], [], h) v hend → XCall xM (d + 2) 154 [.ref 536, .int s] h v hend := fun g => XCall.of (M := xm_X7_row) rfl (Nat.le_of_ble_eq_true rfl) (XGo.go 3 rfl g)
  have n3 : (Int32.ofInt 3).toNatClampNeg = 3 := by decide
  by_cases s1 : s = m1
  · have eN : rwN R s = 0 := if_pos s1
    refine ⟨xup h 537 (.inr (.inl (0, 490, upd f 3 (Int32.ofInt 0)))), entry (XGo.ifp s1 ?_), ?_, fun i hi => absurd hi (by omega), fun z h1 => xup_ne _ _ h1⟩
    · rw [show rwV R s = Int32.ofInt 0 from if_pos s1]
      refine XGo.go 1 rfl ?_
      refine XGo.getf rfl (xfd_o o36 (xlt hN (by decide)) (by decide) rfl) ?_
      refine XGo.go 2 rfl ?_
      refine XGo.iast rfl hf (xlt hN (by decide)) (by decide) (ca_nI (k := 3) (n := 490) (by decide) (by decide)) ?_
      rw [n3]
      refine XGo.go 1 rfl ?_
      exact XGo.iret _ rfl rfl .int rfl rfl
    · rw [eN]
      exact (rd_row (xup_eq _ _ _) (by decide)).trans (congrArg (fun z => some (Value.int z)) upd_at)
  · have same : ¬ rwP R s → rwN R s = R := fun q => (if_neg s1).trans (if_neg q)
    have keep : ¬ rwP R s → ∀ i, i < rwN R s → rd h 537 (440 + i) = if rwP R s ∧ i = R then some (.int s) else rd h 537 (440 + i) := fun q i _ => (if_neg fun z => q z.1).symm
    have qi := k_inI d h s (Int32.ofInt 0) (Int16.ofInt 16383).toInt32
    rw [show (Int32.ofInt 0).toInt = 0 by decide, show ((Int16.ofInt 16383).toInt32).toInt = 16383 by decide] at qi
    have to22 : ∀ {v : Option Value} {hend : XH}, XGo (d + 1) xm_X7_row (22, [some (.ref 536), some (.int s)], [.int (if 0 ≤ s.toInt ∧ s.toInt ≤ 16383 then 1 else 0)], h) v hend → XCall xM (d + 2) 154 [.ref 536, .int s] h v hend := fun {v hend} g => by
      refine entry (XGo.ifn s1 ?_)
      refine XGo.go 3 rfl ?_
      exact XGo.call _ rfl xm_X7_in rfl rfl [.int s, .int (Int32.ofInt 0), .int (Int16.ofInt 16383).toInt32] [] rfl rfl (fun z => absurd rfl z) (Nat.le_of_ble_eq_true rfl) qi g
    by_cases in16 : 0 ≤ s.toInt ∧ s.toInt ≤ 16383
    · have to36 : ∀ {v : Option Value} {hend : XH}, XGo (d + 1) xm_X7_row (if nI R = i41 then 39 else 42, [some (.ref 536), some (.int s)], [], h) v hend → XCall xM (d + 2) 154 [.ref 536, .int s] h v hend := fun {v hend} g => by
        refine to22 ?_
        rw [if_pos in16]
        refine XGo.go 1 rfl ?_
        refine XGo.ifn (by decide) ?_
        refine XGo.go 1 rfl ?_
        refine XGo.getf rfl (xfd_o o36 (xlt hN (by decide)) (by decide) rfl) ?_
        refine XGo.go 1 rfl ?_
        refine XGo.iald rfl (ia_nI (k := 3) hf (xlt hN (by decide)) (by decide) (by decide)) ?_
        rw [f3]
        exact XGo.go 2 rfl g
      have c41 : nI R = i41 ↔ R = 41 := ⟨fun z => nI_inj (a := R) (b := 41) (by omega) (by decide) z, fun z => by rw [z]; decide⟩
      by_cases r4 : R < 41
      · have P : rwP R s := ⟨s1, in16, r4⟩
        have eN : rwN R s = R + 1 := (if_neg s1).trans (if_pos P)
        have c440 : (Int16.ofInt 440).toInt32 + nI R = nI (440 + R) := by
          have t : ∀ k : Fin 41, (Int16.ofInt 440).toInt32 + nI k.val = nI (440 + k.val) := by decide +kernel
          exact t ⟨R, r4⟩
        let A : XH := xup h 537 (.inr (.inl (0, 490, upd f (440 + R) s)))
        have A37 : A.2.2 537 = .inr (.inl (0, 490, upd f (440 + R) s)) := xup_eq _ _ _
        have A36 : A.2.2 536 = .inl (7, mO e) := (xup_ne _ _ (by decide)).trans o36
        let B : XH := xup A 537 (.inr (.inl (0, 490, upd (upd f (440 + R) s) 3 (nI (R + 1)))))
        have B37 : B.2.2 537 = .inr (.inl (0, 490, upd (upd f (440 + R) s) 3 (nI (R + 1)))) := xup_eq _ _ _
        have B36 : B.2.2 536 = .inl (7, mO e) := (xup_ne _ _ (by decide)).trans A36
        have a3 : upd f (440 + R) s 3 = nI R := (upd_ne (by omega)).trans f3
        refine ⟨B, to36 (XGo.ifn (fun z => by have := c41.mp z; omega) ?_), by rw [eN, rd_row B37 (by decide), upd_at], fun i hi => ?_, fun z h1 => (xup_ne _ _ h1).trans (xup_ne _ _ h1)⟩
        · rw [show rwV R s = nI (R + 1) from (if_neg s1).trans ((if_neg fun z => z in16).trans (if_neg fun z => z r4))]
          refine XGo.go 1 rfl ?_
          refine XGo.getf rfl (xfd_o o36 (xlt hN (by decide)) (by decide) rfl) ?_
          refine XGo.go 2 rfl ?_
          refine XGo.getf rfl (xfd_o o36 (xlt hN (by decide)) (by decide) rfl) ?_
          refine XGo.go 1 rfl ?_
          refine XGo.iald rfl (ia_nI (k := 3) hf (xlt hN (by decide)) (by decide) (by decide)) ?_
          rw [f3]
          refine XGo.go 1 rfl ?_
          refine XGo.top c440 ?_
          refine XGo.go 1 rfl ?_
          refine XGo.iast rfl hf (xlt hN (by decide)) (by decide) (ca_nI (show 440 + R < 490 by omega) (by decide)) ?_
          rw [xnI_nat (by omega)]
          show XGo _ _ (58, _, [], A) _ _
          refine XGo.go 1 rfl ?_
          refine XGo.getf rfl (xfd_o A36 (xlt (h := A) hN (by decide)) (by decide) rfl) ?_
          refine XGo.go 2 rfl ?_
          refine XGo.iald rfl (ia_nI (k := 3) A37 (xlt (h := A) hN (by decide)) (by decide) (by decide)) ?_
          rw [a3]
          refine XGo.go 2 rfl ?_
          refine XGo.top (nI_1 R) ?_
          refine XGo.iast rfl A37 (xlt (h := A) hN (by decide)) (by decide) (ca_nI (k := 3) (n := 490) (by decide) (by decide)) ?_
          rw [n3]
          show XGo _ _ (68, _, [], B) _ _
          refine XGo.go 1 rfl ?_
          refine XGo.getf rfl (xfd_o B36 (xlt (h := B) hN (by decide)) (by decide) rfl) ?_
          refine XGo.go 1 rfl ?_
          refine XGo.iald rfl (ia_nI (k := 3) B37 (xlt (h := B) hN (by decide)) (by decide) (by decide)) ?_
          rw [upd_at]
          exact XGo.iret _ rfl rfl .int rfl rfl
        · rw [rd_row B37 (show 440 + i < 490 by omega), rd_row hf (show 440 + i < 490 by omega), upd_ne (show ¬ 440 + i = 3 by omega)]
          by_cases q : i = R
          · rw [if_pos ⟨P, q⟩, q, upd_at]
          · rw [if_neg fun z => q z.2, upd_ne (show ¬ 440 + i = 440 + R by omega)]
      · have q : ¬ rwP R s := fun z => r4 z.2.2
        refine ⟨h, to36 (XGo.ifp (c41.mpr (by omega)) ?_), by rw [same q]; exact h3, keep q, fun _ _ => rfl⟩
        rw [show rwV R s = (Int8.ofInt (-4)).toInt32 from (if_neg s1).trans ((if_neg fun z => z in16).trans (if_pos r4))]
        refine XGo.go 1 rfl ?_
        exact XGo.iret _ rfl rfl .int rfl rfl
    · have q : ¬ rwP R s := fun z => in16 z.2.1
      refine ⟨h, to22 ?_, by rw [same q]; exact h3, keep q, fun _ _ => rfl⟩
      rw [if_neg in16, show rwV R s = i2m from (if_neg s1).trans (if_pos in16)]
      refine XGo.go 1 rfl ?_
      refine XGo.ifp (by decide) ?_
      refine XGo.go 1 rfl ?_
      exact XGo.iret _ rfl rfl .int rfl rfl
end RW2
theorem rwN_le {R : Nat} (hR : R ≤ 41) (s : Int32) : rwN R s ≤ 41 ∧ ∀ i, i < rwN R s → ¬ (rwP R s ∧ i = R) → i < R := by
  unfold rwN
  by_cases s1 : s = m1
  · rw [if_pos s1]
    exact ⟨by omega, fun i hi => absurd hi (by omega)⟩
  · rw [if_neg s1]
    by_cases P : rwP R s
    · rw [if_pos P]
      have := P.2.2
      exact ⟨by omega, fun i hi q => by
        have : ¬ i = R := fun e => q ⟨P, e⟩
        omega⟩
    · rw [if_neg P]
      exact ⟨hR, fun i hi _ => hi⟩
/-- ROW ON BOTH SIDES -/
theorem R_row (s : Int32) {L : Nat} {xs : Nat → Int32} {h : XH} (hR : INVr L xs h) : ∃ (v : Int32) (h1 h2 : XH), XCall xM 11 74 [.ref 13, .int s] h (some (.int v)) h1 ∧ AInv w_W h1 ∧ h1.2.2 1 = h.2.2 1 ∧ XCall xM 11 154 [.ref 536, .int s] h1 (some (.int v)) h2 ∧ INVr L xs h2 := by
  obtain ⟨hI, ⟨R, r0, r1, r2, r3⟩, rK⟩ := hR
  obtain ⟨v1, h1, c1, i1⟩ := G_one h_133 (by decide +kernel) (by decide +kernel) (by decide +kernel) rfl (by decide) (gal13 (galT s gal0)) hI
  obtain ⟨h1', d1, a1, a2, a3⟩ := k_crow 0 hI.1.1 r0 r1 s
  obtain ⟨ev, e1⟩ := XCall.det c1 d1
  subst e1
  rw [ev] at c1
  obtain ⟨v2, h2, c2, i2⟩ := G_one h_940 (by decide +kernel) (by decide +kernel) (by decide +kernel) rfl (by decide) (gal536 (galT s gal0)) i1
  obtain ⟨f, hf⟩ := w_row i1.1.1 (Or.inl rfl)
  obtain ⟨e, -, -, o36, -⟩ := mh_of i1.1.1
  have q3 : rd h1 537 3 = some (.int (nI R)) := (rd_same (a3 537 (by decide) (by decide)) 3).trans r2
  have f3 : f 3 = nI R := int_inj ((rd_row hf (by decide)).symm.trans q3)
  obtain ⟨h2', d2, b1, b2, b3⟩ := k_mrow 0 i1.1.1.1 o36 hf r0 f3 s
  obtain ⟨ev, e2⟩ := XCall.det c2 d2
  subst e2
  rw [ev] at c2
  obtain ⟨n1, n2⟩ := rwN_le r0 s
  refine ⟨rwV R s, h1, h2, c1, i1.1.1, XCall.ext _ _ _ _ _ _ c1 (by rw [hI.1.1.1]; decide) 1 (by decide), c2, i2, ⟨rwN R s, n1, (rd_same (b3 14 (by decide)) 11).trans a1, b1, fun i hi => ?_⟩, rK.fr ?_ ?_ ?_ ?_⟩
  · rw [rd_same (b3 22 (by decide)) i, a2 i hi, b2 i hi, rd_same (a3 537 (by decide) (by decide)) (440 + i)]
    by_cases q : rwP R s ∧ i = R
    · rw [if_pos q, if_pos q]
    · rw [if_neg q, if_neg q]
      exact r3 i (n2 i hi q)
  · exact (rd_same (b3 42 (by decide)) 11).trans (rd_same (a3 42 (by decide) (by decide)) 11)
  · exact (rd_same (b3 538 (by decide)) 3).trans (rd_same (a3 538 (by decide) (by decide)) 3)
  · exact fun i _ => (rd_same (b3 50 (by decide)) i).trans (rd_same (a3 50 (by decide) (by decide)) i)
  · exact fun i _ => (rd_same (b3 538 (by decide)) _).trans (rd_same (a3 538 (by decide) (by decide)) _)
/-- judged: the first number of the row that is wrong -/
def juL (f hs : Nat → Int32) : Nat → Nat → Int32
  | 0, _ => m5
  | q + 1, y => if f (440 + y) = hs y then juL f hs q (y + 1) else nI y
theorem juL_c {f hs hs2 : Nat → Int32} : ∀ (q y : Nat), (∀ j, y ≤ j → j < y + q → hs j = hs2 j) → juL f hs q y = juL f hs2 q y
  | 0, _, _ => rfl
  | q + 1, y, h => by
    unfold juL
    rw [h y (Nat.le_refl y) (by omega), juL_c q (y + 1) fun j h1 h2 => h j (by omega) (by omega)]
section JU
variable {L : Nat} {xs : Nat → Int32} {f : Nat → Int32}
abbrev juC (gr c : Int32) (p : Nat) (y : Int32) : XL := [some (.ref 13), some (.int gr), some (.int c), some (.ref p), some (.int y)]
set_option maxRecDepth 100000 in
theorem ju_c (d : Nat) {h : XH} {ho ra : Nat → Int32} (hI : AInv w_W h) (o71 : ∃ c r b hv : Int32, h.2.2 71 = .inl (4, [.ref 72, .ref 73, .ref 74, .int c, .int r, .int b, .int hv])) (o72 : h.2.2 72 = .inr (.inl (0, 41, ho))) {R : Nat} (hR : R ≤ 41) (h11 : rd h 14 11 = some (.int (nI R))) (o22 : h.2.2 22 = .inr (.inl (0, 41, ra))) (hra : ∀ i, i < R → ra i = f (440 + i)) (gr c : Int32) (p : Nat) : ∀ (q y : Nat), y + q = R → XGo (d + 1) xm_X6_judged (42, juC gr c p (nI y), [], h) (some (.int (juL f ho q y))) h
  | q, y, hy => by
    have hN : h.1 = 549 := hI.1
    obtain ⟨_, _, _, _, p71⟩ := id o71
    have r12 : rd h 14 12 = some (.ref 22) := rd_ref hI (k := 14) (j := 22) (by decide) w_rg_14 k14s rfl rfl w_rg_y.1.1 (by decide)
    have head : ∀ {v : Option Value} {hend : XH}, XGo (d + 1) xm_X6_judged (if nI R ≤ nI y then 90 else 54, juC gr c p (nI y), [], h) v hend → XGo (d + 1) xm_X6_judged (42, juC gr c p (nI y), [], h) v hend := fun {v hend} t => by
      refine XGo.go 2 rfl ?_
      refine XGo.getr rfl hI (by decide) (by decide) w_rg_13 k13s (by decide) (r13_0 hI) ?_
      refine XGo.getr rfl hI (by decide) (by decide) w_rg_14 k14s (by decide) h11 ?_
      exact XGo.go 1 rfl t
    match q, hy with
    | 0, hy =>
      have hy : y = R := by omega
      subst hy
      refine head (XGo.ifp (Int32.le_refl _) ?_)
      refine XGo.go 1 rfl ?_
      exact XGo.iret _ rfl rfl .int rfl rfl
    | q + 1, hy =>
      refine head (XGo.ifn (fun z => absurd ((xnI_ge (by omega) (by omega)).mp z) (by omega)) ?_)
      have nx := ju_c d hI o71 o72 hR h11 o22 hra gr c p q (y + 1) (by omega)
      unfold juC at nx
      rw [← show nI y + Int32.ofInt 1 = nI (y + 1) from nI_1 y] at nx
      refine XGo.go 1 rfl ?_
      refine XGo.getr rfl hI (by decide) (by decide) w_rg_13 k13s (by decide) (r13_0 hI) ?_
      refine XGo.getr rfl hI (by decide) (by decide) w_rg_14 k14s (by decide) r12 ?_
      refine XGo.go 1 rfl ?_
      refine XGo.call _ rfl xm_X6_at rfl rfl [.ref 22, .int (nI y)] [] rfl rfl (fun z => absurd rfl z) (Nat.le_of_ble_eq_true rfl) (at_row (H := h) (d := d) o22 (xlt hN (by decide)) (by decide) (show y < 41 by omega)) ?_
      refine XGo.go 1 rfl ?_
      refine XGo.getr rfl hI (by decide) (by decide) w_rg_13 k13s (by decide) (r13_4 hI) ?_
      refine XGo.getf rfl (xfd_o p71 (xlt hN (by decide)) (by decide) rfl) ?_
      refine XGo.go 1 rfl ?_
      refine XGo.call _ rfl xm_X6_at rfl rfl [.ref 72, .int (nI y)] [.int (ra y)] rfl rfl (fun z => absurd rfl z) (Nat.le_of_ble_eq_true rfl) (at_row (H := h) (d := d) o72 (xlt hN (by decide)) (by decide) (show y < 41 by omega)) ?_
      refine XGo.go 1 rfl ?_
      have er := hra y (by omega)
      by_cases w : ra y = ho y
      · rw [show juL f ho (q + 1) y = juL f ho q (y + 1) from if_pos (er.symm.trans w)]
        exact XGo.ifp w (XGo.go 2 rfl nx)
      · rw [show juL f ho (q + 1) y = nI y from if_neg fun z => w (er.trans z)]
        refine XGo.ifn w ?_
        refine XGo.go 1 rfl ?_
        exact XGo.iret _ rfl rfl .int rfl rfl
  termination_by q => q
set_option maxRecDepth 100000 in
theorem ju_m (d : Nat) {h : XH} {e ho : Nat → Int32} (hN : h.1 = 549) (o36 : h.2.2 536 = .inl (7, mO e)) (hf : h.2.2 537 = .inr (.inl (0, 490, f))) (o43 : h.2.2 543 = .inr (.inl (0, 41, ho))) {R : Nat} (hR : R ≤ 41) (f3 : f 3 = nI R) (gr c : Int32) : ∀ (q y : Nat), y + q = R → XGo d xm_X7_judged (29, [some (.ref 536), some (.int gr), some (.int c), some (.int (nI y))], [], h) (some (.int (juL f ho q y))) h
  | q, y, hy => by
    have head : ∀ {v : Option Value} {hend : XH}, XGo d xm_X7_judged (if nI R ≤ nI y then 66 else 39, [some (.ref 536), some (.int gr), some (.int c), some (.int (nI y))], [], h) v hend → XGo d xm_X7_judged (29, [some (.ref 536), some (.int gr), some (.int c), some (.int (nI y))], [], h) v hend := fun {v hend} t => by
      refine XGo.go 2 rfl ?_
      refine XGo.getf rfl (xfd_o o36 (xlt hN (by decide)) (by decide) rfl) ?_
      refine XGo.go 1 rfl ?_
      refine XGo.iald rfl (ia_nI (k := 3) hf (xlt hN (by decide)) (by decide) (by decide)) ?_
      rw [f3]
      exact XGo.go 1 rfl t
    match q, hy with
    | 0, hy =>
      have hy : y = R := by omega
      subst hy
      refine head (XGo.ifp (Int32.le_refl _) ?_)
      refine XGo.go 1 rfl ?_
      exact XGo.iret _ rfl rfl .int rfl rfl
    | q + 1, hy =>
      refine head (XGo.ifn (fun z => absurd ((xnI_ge (by omega) (by omega)).mp z) (by omega)) ?_)
      have nx := ju_m d hN o36 hf o43 hR f3 gr c q (y + 1) (by omega)
      rw [← show nI y + Int32.ofInt 1 = nI (y + 1) from nI_1 y] at nx
      have c440 : (Int16.ofInt 440).toInt32 + nI y = nI (440 + y) := by
        have t : ∀ k : Fin 41, (Int16.ofInt 440).toInt32 + nI k.val = nI (440 + k.val) := by decide +kernel
        exact t ⟨y, by omega⟩
      refine XGo.go 1 rfl ?_
      refine XGo.getf rfl (xfd_o o36 (xlt hN (by decide)) (by decide) rfl) ?_
      refine XGo.go 3 rfl ?_
      refine XGo.top c440 ?_
      refine XGo.iald rfl (ia_nI hf (xlt hN (by decide)) (show 440 + y < 490 by omega) (by decide)) ?_
      refine XGo.go 1 rfl ?_
      refine XGo.getf rfl (xfd_o o36 (xlt hN (by decide)) (by decide) rfl) ?_
      refine XGo.go 1 rfl ?_
      refine XGo.iald rfl (ia_nI o43 (xlt hN (by decide)) (show y < 41 by omega) (by decide)) ?_
      refine XGo.go 1 rfl ?_
      by_cases w : f (440 + y) = ho y
      · rw [show juL f ho (q + 1) y = juL f ho q (y + 1) from if_pos w]
        exact XGo.ifp w (XGo.go 2 rfl nx)
      · rw [show juL f ho (q + 1) y = nI y from if_neg w]
        refine XGo.ifn w ?_
        refine XGo.go 1 rfl ?_
        exact XGo.iret _ rfl rfl .int rfl rfl
  termination_by q => q
end JU
set_option maxRecDepth 100000 in
theorem G_judged (gr c : Int32) {L : Nat} {xs : Nat → Int32} {h : XH} (hI : INVg L xs h) (hR : RR h 14 22 537) : ∃ (v : Int32) (h1 h2 : XH), XCall xM 11 73 [.ref 13, .int gr, .int c] h (some (.int v)) h1 ∧ AInv w_W h1 ∧ h1.2.2 1 = h.2.2 1 ∧ XCall xM 11 153 [.ref 536, .int gr, .int c] h1 (some (.int v)) h2 ∧ INVg L xs h2 := by
  obtain ⟨f, n, m, G, T, fw, hf, W, hH, hG, f2, h3, hg⟩ := G_ctx hI
  have hB := mbk_of hI.1.1 hf
  have hN := hH.N
  have m6 := W.m6
  obtain ⟨fs, h13, -, -, -⟩ := w_lg hI.1.1
  have rc : ∀ {as : List Value} {M : XMeth}, xmC M = 6 → as.head? = some (.ref 13) → xrecv M as h := fun hM ha _ => ⟨13, fs, ha, by rw [hM]; exact h13, by decide, by omega⟩
  have ch : ∀ (d : Nat) {u : Value} {v : Option Value} {hend : XH}, XCall xM (d + 1) 58 [.ref 14, .int gr] h (some u) h → XGo (d + 1) xm_X6_judged (8, [some (.ref 13), some (.int gr), some (.int c), none, none], [u], h) v hend → XCall xM (d + 2) 73 [.ref 13, .int gr, .int c] h v hend := fun d {u v hend} c58 k => by
    refine XCall.of (M := xm_X6_judged) rfl (Nat.le_of_ble_eq_true rfl) ?_
    refine XGo.go 1 rfl ?_
    refine XGo.getr rfl hI.1.1 (by decide) (by decide) w_rg_13 k13s (by decide) (r13_0 hI.1.1) ?_
    refine XGo.go 1 rfl ?_
    exact XGo.call _ rfl xm_X5_grantAt rfl rfl [.ref 14, .int gr] [] rfl rfl (fun _ => ⟨14, _, rfl, hH.o14, by decide, by omega⟩) (Nat.le_of_ble_eq_true rfl) c58 k
  have mh : ∀ (d : Nat) {h1 : XH} {b : Int32} {v : Option Value} {hend : XH}, MBk h1 f → b = (if 0 ≤ gr.toInt ∧ gr.toInt < (G : Int) then 1 else 0) → XGo (d + 2) xm_X7_judged (5, [some (.ref 536), some (.int gr), some (.int c), none], [.int b], h1) v hend → XCall xM (d + 3) 153 [.ref 536, .int gr, .int c] h1 v hend := fun d {h1 b v hend} hB1 hb k => by
    obtain ⟨hN1, -, ⟨e, o36⟩, hf1, -⟩ := id hB1
    have q := k_isGr d hB1 hG f2 gr
    rw [← hb] at q
    refine XCall.of (M := xm_X7_judged) rfl (Nat.le_of_ble_eq_true rfl) ?_
    refine XGo.go 2 rfl ?_
    exact XGo.call _ rfl xm_X7_isGrant rfl rfl [.ref 536, .int gr] [] rfl rfl (fun _ => ⟨536, _, rfl, o36, by decide, by omega⟩) (Nat.le_of_ble_eq_true rfl) q k
  rcases gr_dec hG gr with hb | ⟨g, hgG, rfl⟩
  · refine ⟨m1, h, h, XCall.up (by decide) (ch 0 (k_gNo 0 hH hG hb) ?_), hI.1.1, rfl, XCall.up (by decide) (mh 0 hB (b := 0) (by rw [if_neg hb]) ?_), hI⟩
    · refine XGo.go 4 rfl ?_
      exact XGo.iret _ rfl rfl .int rfl rfl
    · refine XGo.go 1 rfl ?_
      refine XGo.ifp (by decide) ?_
      refine XGo.go 1 rfl ?_
      exact XGo.iret _ rfl rfl .int rfl rfl
  · have tg := nI_toInt (n := g) (by omega)
    obtain ⟨nc, Lt, Nt, hnc, hCG, hfn, hC⟩ := hg g hgG
    have ch2 : ∀ {v : Option Value} {hend : XH}, XGo 7 xm_X6_judged (20, [some (.ref 13), some (.int (nI g)), some (.int c), some (.ref (24 + 3 * g)), none], [.int (if isCo m c then 1 else 0)], h) v hend → XCall xM 8 73 [.ref 13, .int (nI g), .int c] h v hend := fun {v hend} k => by
      refine ch 6 (k_gAt 6 hH hgG hG) ?_
      refine XGo.go 5 rfl ?_
      exact XGo.call _ rfl xm_X6_isCourse rfl rfl [.ref 13, .int c] [] rfl rfl (rc rfl rfl) (Nat.le_of_ble_eq_true rfl) (k_isCo 5 hI.1.1 m6 h3 c) k
    have mh2 : ∀ {h1 : XH} {v : Option Value} {hend : XH}, MBk h1 f → XGo 7 xm_X7_judged (15, [some (.ref 536), some (.int (nI g)), some (.int c), none], [.int (if isCo m c then 1 else 0)], h1) v hend → XCall xM 8 153 [.ref 536, .int (nI g), .int c] h1 v hend := fun {h1 v hend} hB1 k => by
      obtain ⟨hN1, -, ⟨e, o36⟩, hf1, -⟩ := id hB1
      refine mh 5 hB1 (b := 1) (by rw [if_pos ⟨by omega, by omega⟩]) ?_
      refine XGo.go 1 rfl ?_
      refine XGo.ifn (by decide) ?_
      refine XGo.go 2 rfl ?_
      exact XGo.call _ rfl xm_X7_isCourse rfl rfl [.ref 536, .int c] [] rfl rfl (fun _ => ⟨536, _, rfl, o36, by decide, by omega⟩) (Nat.le_of_ble_eq_true rfl) (k_isCoM 5 hB1 W c) k
    by_cases hc : isCo m c
    · obtain ⟨R, r0, r1, r2, r3⟩ := hR
      have f3 : f 3 = nI R := int_inj ((rd_row hf (by decide)).symm.trans r2)
      obtain ⟨c0, c63⟩ := isCo63 m6 hc
      obtain ⟨k, h1, h2, cC, ⟨fs71, e71, l71⟩, cR, hI2, ⟨o71, ⟨ho, o72, eho⟩, -, -⟩, oth⟩ := G_crun hI hf W (show g < 6 by omega) hnc hCG hC c0 c63
      have hf2 : h2.2.2 537 = .inr (.inl (0, 490, f)) := (oth 537 (by omega)).trans hf
      have hB2 := mbk_of hI2.1.1 hf2
      obtain ⟨h4, cM, hB4, -, ⟨ho4, o43, eho4⟩, -, -, oth4⟩ := M_goes hB2 W (show g < 6 by omega) hnc hfn hC c
      obtain ⟨hN4, -, ⟨e4, o364⟩, hf4, -⟩ := id hB4
      obtain ⟨-, -, ⟨e2, o362⟩, -, -⟩ := id hB2
      obtain ⟨ra, o22⟩ := w_ints hI2.1.1 (k := 22) (by decide) w_rg_y.1.1 (show w_S 22 = (1, 0, 41, [], w_s22.2.2.2.2) from rfl)
      have h11 : rd h2 14 11 = some (.int (nI R)) := (rd_same (oth 14 (by omega)) 11).trans r1
      have hra : ∀ i, i < R → ra i = f (440 + i) := fun i hi => by
        have q := (rd_same (oth 22 (by omega)) i).trans (r3 i hi)
        rw [rd_ints o22 (show i < 41 by omega), rd_row hf (show 440 + i < 490 by omega)] at q
        exact int_inj q
      have ej : juL f ho4 R 0 = juL f ho R 0 := juL_c R 0 fun j _ hj => by rw [eho4 j (by omega), eho j (by omega)]
      have c1 : XCall xM 8 73 [.ref 13, .int (nI g), .int c] h (some (.int (juL f ho R 0))) h2 := ch2 (by
        rw [if_pos hc]
        refine XGo.go 1 rfl ?_
        refine XGo.ifn (by decide) ?_
        refine XGo.go 1 rfl ?_
        refine XGo.getr rfl hI.1.1 (by decide) (by decide) w_rg_13 k13s (by decide) (r13_4 hI.1.1) ?_
        refine XGo.go 3 rfl ?_
        refine XGo.call _ rfl xm_X6_courseOf rfl rfl [.ref 13, .int c] [.ref (24 + 3 * g), .ref 71] rfl rfl (rc rfl rfl) (Nat.le_of_ble_eq_true rfl) (XCall.up (by decide) cC) ?_
        refine XGo.call _ rfl xm_X4_go rfl rfl [.ref 71, .ref (24 + 3 * g), .ref (88 + 7 * k)] [] rfl rfl (fun _ => ⟨71, _, rfl, e71, by decide, l71⟩) (Nat.le_of_ble_eq_true rfl) (XCall.up (by decide) cR) ?_
        refine XGo.go 2 rfl ?_
        exact ju_c 6 hI2.1.1 o71 o72 r0 h11 o22 hra (nI g) c (24 + 3 * g) R 0 (by omega))
      have c2 : XCall xM 8 153 [.ref 536, .int (nI g), .int c] h2 (some (.int (juL f ho R 0))) h4 := mh2 hB2 (by
        rw [if_pos hc, ← ej]
        refine XGo.go 1 rfl ?_
        refine XGo.ifn (by decide) ?_
        refine XGo.go 3 rfl ?_
        refine XGo.call _ rfl xm_X7_goes rfl rfl [.ref 536, .int (nI g), .int c] [] rfl rfl (fun _ => ⟨536, _, rfl, o362, by decide, by rw [hI2.1.1.1]; decide⟩) (Nat.le_of_ble_eq_true rfl) cM ?_
        refine XGo.go 2 rfl ?_
        exact ju_m 7 hN4 o364 hf4 o43 r0 f3 (nI g) c R 0 (by omega))
      refine ⟨_, h2, h4, XCall.up (by decide) c1, hI2.1.1, XCall.ext _ _ _ _ _ _ c1 (by rw [hI.1.1.1]; decide) 1 (by decide), XCall.up (by decide) c2, ?_⟩
      exact G_fin h_938 (by decide +kernel) rfl (by decide +kernel) (by decide +kernel) (by decide +kernel) (gal536 (galT _ (galT c gal0))) hI2 c2 hf2 hf4 fun z hz => oth4 z (by omega) (by omega)
    · refine ⟨i2m, h, h, XCall.up (e := 11) (by decide) (ch2 ?_), hI.1.1, rfl, XCall.up (by decide) (mh2 hB ?_), hI⟩
      · rw [if_neg hc]
        refine XGo.go 1 rfl ?_
        refine XGo.ifp (by decide) ?_
        refine XGo.go 1 rfl ?_
        exact XGo.iret _ rfl rfl .int rfl rfl
      · rw [if_neg hc]
        refine XGo.go 1 rfl ?_
        refine XGo.ifp (by decide) ?_
        refine XGo.go 1 rfl ?_
        exact XGo.iret _ rfl rfl .int rfl rfl
/-- JUDGED ON BOTH SIDES -/
theorem R_judged (gr c : Int32) {L : Nat} {xs : Nat → Int32} {h : XH} (hR : INVr L xs h) : ∃ (v : Int32) (h1 h2 : XH), XCall xM 11 73 [.ref 13, .int gr, .int c] h (some (.int v)) h1 ∧ AInv w_W h1 ∧ h1.2.2 1 = h.2.2 1 ∧ XCall xM 11 153 [.ref 536, .int gr, .int c] h1 (some (.int v)) h2 ∧ INVr L xs h2 :=
  R_two h_131 (by decide +kernel) rfl (by decide +kernel) (gal13 (galT gr (galT c gal0))) h_938 (by decide +kernel) rfl (by decide +kernel) (gal536 (galT gr (galT c gal0))) hR (G_judged gr c hR.1 hR.2.1)
