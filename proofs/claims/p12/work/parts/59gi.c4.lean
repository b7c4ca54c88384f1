/-! lives: c4 -/
theorem lvB_z {t : Nat} (ht : t < 32) : ¬ lvB (Int32.ofInt 0) t := by
  rw [lvB_iff ht]
  show ¬ (0#32).getLsbD t = true
  simp
set_option maxRecDepth 100000 in
/-- a course as at first, its children too -/
theorem k_start (d : Nat) {h : XH} {b : Nat} {i lt ld : Int32} {x : CX} {fw : List Value} {n m : Nat} {ag pa ki wh ye : Nat → Int32} (h20 : 20 ≤ b) (hb : b + 6 < 549) (hn : n ≤ 8) (hw : WK h fw n m ag pa ki wh ye) (hr : CR h b i lt ld x) : ∃ (h1 : XH) (y : CX), XCall xM (d + 3) 2 [.ref b, .ref 14] h none h1 ∧ CRo b h h1 ∧ CR h1 b i lt ld y ∧ y.1 = ((Int32.ofInt 1 <<< (nI n &&& 31)) - Int32.ofInt 1, Int32.ofInt 0, Int32.ofInt 0) ∧ (∀ j, j < 14 → y.2.1 j = if j < n then - ag j else c1000) ∧ (∀ j, j < 14 → y.2.2.1 j = c1000) ∧ ∀ p, p < 14 → ∀ t, t < 32 → (lvB (y.2.2.2 p) t ↔ t < n ∧ pa t = nI p) := by
  obtain ⟨hN, h14, ⟨w0, w1, w2, w3, w4, w5, w6⟩, r15, r16, r17, r18, r19⟩ := id hw
  obtain ⟨⟨an, wn, dn⟩, bi, dt, ch⟩ := x
  obtain ⟨r0, r4, r5, r6⟩ := id hr
  dsimp only at r0 r4 r5 r6
  -- three fields
  have up : ∀ {h : XH} {a w dd : Int32} {bi dt ch : Nat → Int32}, CR h b i lt ld ((a, w, dd), bi, dt, ch) → ∀ a' w' d', CR (xup h b (.inl (0, coF b i lt ld a' w' d'))) b i lt ld ((a', w', d'), bi, dt, ch) := fun {h a w dd bi dt ch} hr a' w' d' => ⟨xup_eq _ _ _, (xup_ne _ _ (by omega)).trans hr.2.1, (xup_ne _ _ (by omega)).trans hr.2.2.1, (xup_ne _ _ (by omega)).trans hr.2.2.2⟩
  have rA := up hr ((Int32.ofInt 1 <<< (nI n &&& 31)) - Int32.ofInt 1) wn dn
  have oA : CRo b h (xup h b (.inl (0, coF b i lt ld ((Int32.ofInt 1 <<< (nI n &&& 31)) - Int32.ofInt 1) wn dn))) := CRo.up (Or.inl rfl) _
  generalize hA : xup h b (.inl (0, coF b i lt ld ((Int32.ofInt 1 <<< (nI n &&& 31)) - Int32.ofInt 1) wn dn)) = A at rA oA
  have rB := up rA ((Int32.ofInt 1 <<< (nI n &&& 31)) - Int32.ofInt 1) (Int32.ofInt 0) dn
  have oB : CRo b A (xup A b (.inl (0, coF b i lt ld ((Int32.ofInt 1 <<< (nI n &&& 31)) - Int32.ofInt 1) (Int32.ofInt 0) dn))) := CRo.up (Or.inl rfl) _
  generalize hB : xup A b (.inl (0, coF b i lt ld ((Int32.ofInt 1 <<< (nI n &&& 31)) - Int32.ofInt 1) (Int32.ofInt 0) dn)) = B at rB oB
  have rC := up rB ((Int32.ofInt 1 <<< (nI n &&& 31)) - Int32.ofInt 1) (Int32.ofInt 0) (Int32.ofInt 0)
  have oC : CRo b B (xup B b (.inl (0, coF b i lt ld ((Int32.ofInt 1 <<< (nI n &&& 31)) - Int32.ofInt 1) (Int32.ofInt 0) (Int32.ofInt 0)))) := CRo.up (Or.inl rfl) _
  generalize hC : xup B b (.inl (0, coF b i lt ld ((Int32.ofInt 1 <<< (nI n &&& 31)) - Int32.ofInt 1) (Int32.ofInt 0) (Int32.ofInt 0))) = C at rC oC
  have lA : A.1 = 549 := oA.1.trans hN
  have lB : B.1 = 549 := oB.1.trans lA
  have lC : C.1 = 549 := oC.1.trans lB
  obtain ⟨D, bi', cD, oD, eD, jD⟩ := k_fill (d + 1) rC.2.1 (by omega) (by omega) (by decide) c1000
  have lD : D.1 = 549 := oD.1.trans lC
  have rD : CR D b i lt ld (((Int32.ofInt 1 <<< (nI n &&& 31)) - Int32.ofInt 1, Int32.ofInt 0, Int32.ofInt 0), bi', dt, ch) := ⟨(oD.2.2 b (by omega)).trans rC.1, eD, (oD.2.2 (b + 5) (by omega)).trans rC.2.2.1, (oD.2.2 (b + 6) (by omega)).trans rC.2.2.2⟩
  obtain ⟨E, dt', cE, oE, eE, jE⟩ := k_fill (d + 1) rD.2.2.1 (by omega) (by omega) (by decide) c1000
  have lE : E.1 = 549 := oE.1.trans lD
  have rE : CR E b i lt ld (((Int32.ofInt 1 <<< (nI n &&& 31)) - Int32.ofInt 1, Int32.ofInt 0, Int32.ofInt 0), bi', dt', ch) := ⟨(oE.2.2 b (by omega)).trans rD.1, (oE.2.2 (b + 4) (by omega)).trans rD.2.1, eE, (oE.2.2 (b + 6) (by omega)).trans rD.2.2.2⟩
  obtain ⟨F, ch', cF, oF, eF, jF⟩ := k_fill (d + 1) rE.2.2.2 (by omega) (by omega) (by decide) (Int32.ofInt 0)
  have rF : CR F b i lt ld (((Int32.ofInt 1 <<< (nI n &&& 31)) - Int32.ofInt 1, Int32.ofInt 0, Int32.ofInt 0), bi', dt', ch') := ⟨(oF.2.2 b (by omega)).trans rE.1, (oF.2.2 (b + 4) (by omega)).trans rE.2.1, (oF.2.2 (b + 5) (by omega)).trans rE.2.2.1, eF⟩
  have oDEF : CRo b h F := ((((oA.trans oB).trans oC).trans (oD.cr (Or.inr (Or.inl rfl)))).trans (oE.cr (Or.inr (Or.inr (Or.inl rfl))))).trans (oF.cr (Or.inr (Or.inr (Or.inr rfl))))
  obtain ⟨v, G, ⟨rfl, bi2, ch2, oG, rG, jG, kG⟩, k⟩ := start_l (d := d) (Q := fun v h1 => v = none ∧ ∃ bi ch : Nat → Int32, CRo b h h1 ∧ CR h1 b i lt ld (((Int32.ofInt 1 <<< (nI n &&& 31)) - Int32.ofInt 1, Int32.ofInt 0, Int32.ofInt 0), bi, dt', ch) ∧ (∀ j, j < 14 → bi j = if j < n then - ag j else c1000) ∧ ∀ p, p < 14 → ∀ t, t < 32 → (lvB (ch p) t ↔ t < n ∧ pa t = nI p)) h20 hb hn (fun h1 bi ch o r j c => ⟨rfl, bi, ch, o, r, j, c⟩) n 0 F bi' ch' (by omega) (hw.cr h20 oDEF) oDEF rF (fun t ht => by rw [if_neg (by omega)]; exact jD t ht) (fun p hp t ht => by rw [jF p hp]; exact ⟨fun z => absurd z (lvB_z ht), fun z => absurd z.1 (by omega)⟩)
  refine ⟨G, _, XCall.of (M := xm_X0_start) rfl (Nat.le_of_ble_eq_true rfl) ?_, oG, rG, rfl, jG, jE, kG⟩
  obtain ⟨-, A14, -⟩ := id (hw.cr h20 oA)
  refine XGo.go 3 rfl ?_
  refine XGo.getf rfl (xfd_o h14 (by omega) (by decide) w0) ?_
  refine XGo.go 3 rfl ?_
  refine XGo.putf rfl r0 (by omega) (by omega) (show 9 < 12 by decide) rfl rfl ?_
  show XGo _ _ (12, _, [], xup h b (.inl (0, coF b i lt ld ((Int32.ofInt 1 <<< (nI n &&& 31)) - Int32.ofInt 1) wn dn))) _ _
  rw [hA]
  refine XGo.go 2 rfl ?_
  refine XGo.putf rfl rA.1 (by omega) (by omega) (show 10 < 12 by decide) rfl rfl ?_
  show XGo _ _ (17, _, [], xup A b (.inl (0, coF b i lt ld ((Int32.ofInt 1 <<< (nI n &&& 31)) - Int32.ofInt 1) (Int32.ofInt 0) dn))) _ _
  rw [hB]
  refine XGo.go 2 rfl ?_
  refine XGo.putf rfl rB.1 (by omega) (by omega) (show 11 < 12 by decide) rfl rfl ?_
  show XGo _ _ (22, _, [], xup B b (.inl (0, coF b i lt ld ((Int32.ofInt 1 <<< (nI n &&& 31)) - Int32.ofInt 1) (Int32.ofInt 0) (Int32.ofInt 0)))) _ _
  rw [hC]
  refine XGo.go 1 rfl ?_
  refine XGo.getf rfl (xfd_o rC.1 (by omega) (by omega) rfl) ?_
  refine XGo.go 1 rfl ?_
  refine XGo.call _ rfl xm_X6_fill rfl rfl [.ref (b + 4), .int c1000] [] rfl rfl (fun z => absurd rfl z) (Nat.le_of_ble_eq_true rfl) cD ?_
  refine XGo.go 1 rfl ?_
  refine XGo.getf rfl (xfd_o rD.1 (by omega) (by omega) rfl) ?_
  refine XGo.go 1 rfl ?_
  refine XGo.call _ rfl xm_X6_fill rfl rfl [.ref (b + 5), .int c1000] [] rfl rfl (fun z => absurd rfl z) (Nat.le_of_ble_eq_true rfl) cE ?_
  refine XGo.go 1 rfl ?_
  refine XGo.getf rfl (xfd_o rE.1 (by omega) (by omega) rfl) ?_
  refine XGo.go 1 rfl ?_
  refine XGo.call _ rfl xm_X6_fill rfl rfl [.ref (b + 6), .int (Int32.ofInt 0)] [] rfl rfl (fun z => absurd rfl z) (Nat.le_of_ble_eq_true rfl) cF ?_
  refine XGo.go 2 rfl ?_
  exact k
