/-! lives: c2 -/
/-- a maybe comes, as the class has it -/
def coC (kind w y : Int32) (m : Nat) (x : CX) : CX :=
  if kind = Int32.ofInt 3 then ((x.1.1, x.1.2.1, x.1.2.2 ||| (Int32.ofInt 1 <<< (w &&& 31))), x.2)
  else if (x.1.1 >>> (w &&& 31)) &&& Int32.ofInt 1 = 0 then x
  else if kind = 0 then ((x.1.1 ||| (Int32.ofInt 1 <<< (nI (8 + m) &&& 31)), x.1.2), upd x.2.1 (8 + m) y, x.2.2.1, coK x.2.2.2 w (8 + m))
  else if kind = Int32.ofInt 1 then ((x.1.1 &&& ((Int32.ofInt 1 <<< (w &&& 31)) ^^^ Int32.ofInt (-1)), x.1.2), x.2.1, upd x.2.2.1 w.toNatClampNeg y, x.2.2.2)
  else ((x.1.1, x.1.2.1 ||| (Int32.ofInt 1 <<< (w &&& 31)), x.1.2.2), x.2)
set_option maxRecDepth 100000 in
theorem k_come (d : Nat) {h : XH} {b : Nat} {i lt ld : Int32} {x : CX} (hr : CR h b i lt ld x) (h13 : 13 ≤ b) (hb : b + 6 < h.1) {kind w y : Int32} {m : Nat} (hm : m < 6) (hw : 0 ≤ w.toInt ∧ w.toInt ≤ 13) : ∃ h1 : XH, XCall xM (d + 3) 4 [.ref b, .int kind, .int w, .int (nI m), .int y] h none h1 ∧ CRo b h h1 ∧ CR h1 b i lt ld (coC kind w y m x) := by
  obtain ⟨r0, r4, r5, r6⟩ := id hr
  obtain ⟨⟨an, wn, dn⟩, bi, dt, ch⟩ := x
  dsimp only at r0 r4 r5 r6
  have l0 : b < h.1 := by omega
  have done : ∀ {h1 : XH}, XGo (d + 2) xm_X0_come (0, [some (.ref b), some (.int kind), some (.int w), some (.int (nI m)), some (.int y)], [], h) none h1 → XCall xM (d + 3) 4 [.ref b, .int kind, .int w, .int (nI m), .int y] h none h1 := fun k => XCall.of (M := xm_X0_come) rfl (Nat.le_of_ble_eq_true rfl) k
  have e8 : (Int8.ofInt 8).toInt32 + nI m = nI (8 + m) := nI_add 8 m
  have up0 : ∀ (an' wn' dn' : Int32), CR (xup h b (.inl (0, coF b i lt ld an' wn' dn'))) b i lt ld ((an', wn', dn'), bi, dt, ch) := fun an' wn' dn' => ⟨xup_eq _ _ _, (xup_ne _ _ (by omega)).trans r4, (xup_ne _ _ (by omega)).trans r5, (xup_ne _ _ (by omega)).trans r6⟩
  by_cases k3 : kind = Int32.ofInt 3
  · refine ⟨xup h b (.inl (0, coF b i lt ld an wn (dn ||| (Int32.ofInt 1 <<< (w &&& 31))))), done ?_, CRo.up (Or.inl rfl) _, ?_⟩
    · refine XGo.go 3 rfl ?_
      refine XGo.ifp k3 ?_
      refine XGo.go 2 rfl ?_
      refine XGo.getf rfl (xfd_o r0 l0 h13 rfl) ?_
      refine XGo.go 4 rfl ?_
      refine XGo.putf rfl r0 l0 h13 (show 11 < 12 by decide) rfl rfl ?_
      exact XGo.vret _ rfl rfl rfl
    · unfold coC
      rw [if_pos k3]
      exact up0 _ _ _
  · have c1 : ∀ {h1 : XH}, XGo (d + 2) xm_X0_come (if (an >>> (w &&& 31)) &&& Int32.ofInt 1 = 0 then 29 else 30, [some (.ref b), some (.int kind), some (.int w), some (.int (nI m)), some (.int y)], [], h) none h1 → XCall xM (d + 3) 4 [.ref b, .int kind, .int w, .int (nI m), .int y] h none h1 := fun k => done (by
      refine XGo.go 3 rfl ?_
      refine XGo.ifn k3 ?_
      refine XGo.go 1 rfl ?_
      refine XGo.getf rfl (xfd_o r0 l0 h13 rfl) ?_
      exact XGo.go 5 rfl k)
    by_cases ka : (an >>> (w &&& 31)) &&& Int32.ofInt 1 = 0
    · refine ⟨h, c1 (XGo.ifp ka (XGo.vret _ rfl rfl rfl)), CRo.refl b h, ?_⟩
      unfold coC
      rw [if_neg k3, if_pos ka]
      exact hr
    · by_cases k0 : kind = 0
      · have r0' : (xup h b (.inl (0, coF b i lt ld (an ||| (Int32.ofInt 1 <<< (nI (8 + m) &&& 31))) wn dn))).2.2 b = .inl (0, coF b i lt ld (an ||| (Int32.ofInt 1 <<< (nI (8 + m) &&& 31))) wn dn) := xup_eq _ _ _
        have r4' : (xup h b (.inl (0, coF b i lt ld (an ||| (Int32.ofInt 1 <<< (nI (8 + m) &&& 31))) wn dn))).2.2 (b + 4) = .inr (.inl (0, 14, bi)) := (xup_ne _ _ (by omega)).trans r4
        have r5' : (xup h b (.inl (0, coF b i lt ld (an ||| (Int32.ofInt 1 <<< (nI (8 + m) &&& 31))) wn dn))).2.2 (b + 5) = .inr (.inl (0, 14, dt)) := (xup_ne _ _ (by omega)).trans r5
        have r6' : (xup h b (.inl (0, coF b i lt ld (an ||| (Int32.ofInt 1 <<< (nI (8 + m) &&& 31))) wn dn))).2.2 (b + 6) = .inr (.inl (0, 14, ch)) := (xup_ne _ _ (by omega)).trans r6
        have oA : CRo b h (xup h b (.inl (0, coF b i lt ld (an ||| (Int32.ofInt 1 <<< (nI (8 + m) &&& 31))) wn dn))) := CRo.up (Or.inl rfl) _
        generalize hA : xup h b (.inl (0, coF b i lt ld (an ||| (Int32.ofInt 1 <<< (nI (8 + m) &&& 31))) wn dn)) = A at r0' r4' r5' r6' oA
        have lA : b + 6 < A.1 := by rw [oA.1]; exact hb
        have q := k_put_in (d + 1) A (b + 4) 14 bi (nI (8 + m)) y r4' (by omega) (by omega) (by decide) (ca_nI (by omega) (by decide))
        rw [xnI_nat (by omega)] at q
        have oB : CRo b h (xup A (b + 4) (.inr (.inl (0, 14, upd bi (8 + m) y)))) := oA.trans (CRo.up (Or.inr (Or.inl rfl)) _)
        have rB : CR (xup A (b + 4) (.inr (.inl (0, 14, upd bi (8 + m) y)))) b i lt ld ((an ||| (Int32.ofInt 1 <<< (nI (8 + m) &&& 31)), wn, dn), upd bi (8 + m) y, dt, ch) := ⟨(xup_ne _ _ (by omega)).trans r0', xup_eq _ _ _, (xup_ne _ _ (by omega)).trans r5', (xup_ne _ _ (by omega)).trans r6'⟩
        generalize hB : xup A (b + 4) (.inr (.inl (0, 14, upd bi (8 + m) y))) = B at q oB rB
        have lB : b + 6 < B.1 := by rw [oB.1]; exact hb
        obtain ⟨C, cC, oC, rC⟩ := k_addChild d rB h13 lB w (8 + m)
        refine ⟨C, c1 (XGo.ifn ka ?_), oB.trans oC, ?_⟩
        · refine XGo.go 2 rfl ?_
          refine XGo.ifp k0 ?_
          refine XGo.go 2 rfl ?_
          refine XGo.getf rfl (xfd_o r0 l0 h13 rfl) ?_
          refine XGo.go 6 rfl ?_
          show XGo _ _ (46, _, [.int (an ||| (Int32.ofInt 1 <<< (((Int8.ofInt 8).toInt32 + nI m) &&& 31))), .ref b], _) _ _
          rw [e8]
          refine XGo.putf rfl r0 l0 h13 (show 9 < 12 by decide) rfl rfl ?_
          show XGo _ _ (49, _, [], xup h b (.inl (0, coF b i lt ld (an ||| (Int32.ofInt 1 <<< (nI (8 + m) &&& 31))) wn dn))) _ _
          rw [hA]
          refine XGo.go 1 rfl ?_
          refine XGo.getf rfl (xfd_o r0' (by omega) h13 rfl) ?_
          refine XGo.go 4 rfl ?_
          show XGo _ _ (59, _, [.int y, .int ((Int8.ofInt 8).toInt32 + nI m), .ref (b + 4)], _) _ _
          rw [e8]
          refine XGo.call _ rfl xm_X6_put rfl rfl [.ref (b + 4), .int (nI (8 + m)), .int y] [] rfl rfl (fun z => absurd rfl z) (Nat.le_of_ble_eq_true rfl) q ?_
          refine XGo.go 5 rfl ?_
          show XGo _ _ (68, _, [.int ((Int8.ofInt 8).toInt32 + nI m), .int w, .ref b], _) _ _
          rw [e8]
          refine XGo.call _ rfl xm_X0_addChild rfl rfl [.ref b, .int w, .int (nI (8 + m))] [] rfl rfl (fun _ => ⟨b, _, rfl, rB.1, by omega, by omega⟩) (Nat.le_of_ble_eq_true rfl) cC ?_
          refine XGo.go 1 rfl ?_
          exact XGo.vret _ rfl rfl rfl
        · unfold coC
          rw [if_neg k3, if_neg ka, if_pos k0]
          exact rC
      · by_cases k1 : kind = Int32.ofInt 1
        · have r0' : (xup h b (.inl (0, coF b i lt ld (an &&& ((Int32.ofInt 1 <<< (w &&& 31)) ^^^ Int32.ofInt (-1))) wn dn))).2.2 b = .inl (0, coF b i lt ld (an &&& ((Int32.ofInt 1 <<< (w &&& 31)) ^^^ Int32.ofInt (-1))) wn dn) := xup_eq _ _ _
          have r4' : (xup h b (.inl (0, coF b i lt ld (an &&& ((Int32.ofInt 1 <<< (w &&& 31)) ^^^ Int32.ofInt (-1))) wn dn))).2.2 (b + 4) = .inr (.inl (0, 14, bi)) := (xup_ne _ _ (by omega)).trans r4
          have r5' : (xup h b (.inl (0, coF b i lt ld (an &&& ((Int32.ofInt 1 <<< (w &&& 31)) ^^^ Int32.ofInt (-1))) wn dn))).2.2 (b + 5) = .inr (.inl (0, 14, dt)) := (xup_ne _ _ (by omega)).trans r5
          have r6' : (xup h b (.inl (0, coF b i lt ld (an &&& ((Int32.ofInt 1 <<< (w &&& 31)) ^^^ Int32.ofInt (-1))) wn dn))).2.2 (b + 6) = .inr (.inl (0, 14, ch)) := (xup_ne _ _ (by omega)).trans r6
          have oA : CRo b h (xup h b (.inl (0, coF b i lt ld (an &&& ((Int32.ofInt 1 <<< (w &&& 31)) ^^^ Int32.ofInt (-1))) wn dn))) := CRo.up (Or.inl rfl) _
          generalize hA : xup h b (.inl (0, coF b i lt ld (an &&& ((Int32.ofInt 1 <<< (w &&& 31)) ^^^ Int32.ofInt (-1))) wn dn)) = A at r0' r4' r5' r6' oA
          have lA : b + 6 < A.1 := by rw [oA.1]; exact hb
          have cw : ¬ (w < 0 ∨ 14 ≤ w.toNatClampNeg) := fun z => z.elim (fun z => by
            have e := Int32.lt_iff_toInt_lt.mp z
            rw [show (0 : Int32).toInt = 0 by decide] at e
            omega) (fun z => by
            have e : w.toNatClampNeg = w.toInt.toNat := rfl
            omega)
          have q := k_put_in (d + 1) A (b + 5) 14 dt w y r5' (by omega) (by omega) (by decide) cw
          refine ⟨xup A (b + 5) (.inr (.inl (0, 14, upd dt w.toNatClampNeg y))), c1 (XGo.ifn ka ?_), oA.trans (CRo.up (Or.inr (Or.inr (Or.inl rfl))) _), ?_⟩
          · refine XGo.go 2 rfl ?_
            refine XGo.ifn k0 ?_
            refine XGo.go 3 rfl ?_
            refine XGo.ifp k1 ?_
            refine XGo.go 2 rfl ?_
            refine XGo.getf rfl (xfd_o r0 l0 h13 rfl) ?_
            refine XGo.go 6 rfl ?_
            refine XGo.putf rfl r0 l0 h13 (show 9 < 12 by decide) rfl rfl ?_
            show XGo _ _ (93, _, [], xup h b (.inl (0, coF b i lt ld (an &&& ((Int32.ofInt 1 <<< (w &&& 31)) ^^^ Int32.ofInt (-1))) wn dn))) _ _
            rw [hA]
            refine XGo.go 1 rfl ?_
            refine XGo.getf rfl (xfd_o r0' (by omega) h13 rfl) ?_
            refine XGo.go 2 rfl ?_
            refine XGo.call _ rfl xm_X6_put rfl rfl [.ref (b + 5), .int w, .int y] [] rfl rfl (fun z => absurd rfl z) (Nat.le_of_ble_eq_true rfl) q ?_
            refine XGo.go 1 rfl ?_
            exact XGo.vret _ rfl rfl rfl
          · unfold coC
            rw [if_neg k3, if_neg ka, if_neg k0, if_pos k1]
            exact ⟨(xup_ne _ _ (by omega)).trans r0', (xup_ne _ _ (by omega)).trans r4', xup_eq _ _ _, (xup_ne _ _ (by omega)).trans r6'⟩
        · refine ⟨xup h b (.inl (0, coF b i lt ld an (wn ||| (Int32.ofInt 1 <<< (w &&& 31))) dn)), c1 (XGo.ifn ka ?_), CRo.up (Or.inl rfl) _, ?_⟩
          · refine XGo.go 2 rfl ?_
            refine XGo.ifn k0 ?_
            refine XGo.go 3 rfl ?_
            refine XGo.ifn k1 ?_
            refine XGo.go 2 rfl ?_
            refine XGo.getf rfl (xfd_o r0 l0 h13 rfl) ?_
            refine XGo.go 4 rfl ?_
            refine XGo.putf rfl r0 l0 h13 (show 10 < 12 by decide) rfl rfl ?_
            exact XGo.vret _ rfl rfl rfl
          · unfold coC
            rw [if_neg k3, if_neg ka, if_neg k0, if_neg k1]
            exact up0 _ _ _
