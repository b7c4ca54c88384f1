/-! lives: c5 -/
/-- the last to die of the first p, and when; none: one of them doesn't -/
theorem flS_none {dt : Nat → Int32} {p : Nat} (h : flS dt p = none) : ∀ k, flS dt (p + k) = none
  | 0 => h
  | k + 1 => by
    show (match flS dt (p + k) with | none => none | some z => _) = none
    rw [flS_none h k]
set_option maxRecDepth 100000 in
theorem last_l {d : Nat} {b : Nat} {i : Int32} {x : CX} {n : Nat} (h20 : 20 ≤ b) (hn : n ≤ 8) {h0 : XH} (hb : b + 6 < h0.1) {Q : Option Value → XH → Prop} (fin : ∀ h1 : XH, CRo b h0 h1 → CR h1 b i (flR x.2.2.1 n).1 (flR x.2.2.1 n).2 x → Q none h1) : ∀ (q p : Nat) (h : XH) (lt ld : Int32) (l3 : Option Value), p + q = n → CRo b h0 h → CR h b i lt ld x → flS x.2.2.1 p = some (lt, ld) → XGe (d + 1) xm_X0_findLast (15, [some (.ref b), some (.int (nI n)), some (.int (nI p)), l3], [], h) Q
  | q, p, h, lt, ld, l3, hi, ho, hr, hz => by
    obtain ⟨⟨an, wn, dn⟩, bi, dt, ch⟩ := x
    obtain ⟨r0, r4, r5, r6⟩ := id hr
    dsimp only at r0 r4 r5 r6 hz
    have hN : b + 6 < h.1 := by rw [ho.1]; exact hb
    have up : ∀ {h : XH} {lt ld : Int32}, CR h b i lt ld ((an, wn, dn), bi, dt, ch) → ∀ lt' ld', CR (xup h b (.inl (0, coF b i lt' ld' an wn dn))) b i lt' ld' ((an, wn, dn), bi, dt, ch) := fun {h lt ld} hr lt' ld' => ⟨xup_eq _ _ _, (xup_ne _ _ (by omega)).trans hr.2.1, (xup_ne _ _ (by omega)).trans hr.2.2.1, (xup_ne _ _ (by omega)).trans hr.2.2.2⟩
    have head : ∀ {v : Option Value} {hend : XH}, XGo (d + 1) xm_X0_findLast (if nI n ≤ nI p then 83 else 20, [some (.ref b), some (.int (nI n)), some (.int (nI p)), l3], [], h) v hend → XGo (d + 1) xm_X0_findLast (15, [some (.ref b), some (.int (nI n)), some (.int (nI p)), l3], [], h) v hend := fun k => XGo.go 3 rfl k
    match q, hi with
    | 0, hi =>
      have hi : p = n := by omega
      subst hi
      refine ⟨none, h, fin h ho ?_, head (XGo.ifp (Int32.le_refl _) (XGo.vret _ rfl rfl rfl))⟩
      unfold flR
      dsimp only
      rw [hz]
      exact hr
    | q + 1, hi =>
      have hpn : p < n := by omega
      have cn : ¬ nI n ≤ nI p := fun z => absurd ((xnI_ge (by omega) (by omega)).mp z) (by omega)
      have a1 := k_at d h (b + 5) 14 dt (nI p) r5 (by omega) (by decide)
      rw [if_neg (ca_nI (by omega) (by decide)), xnI_nat (by omega)] at a1
      have c1 : ∀ {v : Option Value} {hend : XH}, XGo (d + 1) xm_X0_findLast (if dt p = c1000 then 36 else 50, [some (.ref b), some (.int (nI n)), some (.int (nI p)), some (.int (dt p))], [], h) v hend → XGo (d + 1) xm_X0_findLast (15, [some (.ref b), some (.int (nI n)), some (.int (nI p)), l3], [], h) v hend := fun k => head (XGo.ifn cn (by
        refine XGo.go 1 rfl ?_
        refine XGo.getf rfl (xfd_o r0 (by omega) (by omega) rfl) ?_
        refine XGo.go 1 rfl ?_
        refine XGo.call _ rfl xm_X6_at rfl rfl [.ref (b + 5), .int (nI p)] [] rfl rfl (fun z => absurd rfl z) (Nat.le_of_ble_eq_true rfl) a1 ?_
        exact XGo.go 4 rfl k))
      by_cases h9 : dt p = c1000
      · have rA := up hr m5 ld
        have oA : CRo b h (xup h b (.inl (0, coF b i m5 ld an wn dn))) := CRo.up (Or.inl rfl) _
        generalize hA : xup h b (.inl (0, coF b i m5 ld an wn dn)) = A at rA oA
        have lA : b + 6 < A.1 := by rw [oA.1]; exact hN
        refine ⟨none, xup A b (.inl (0, coF b i m5 c1000 an wn dn)), fin _ ((ho.trans oA).trans (CRo.up (Or.inl rfl) _)) ?_, c1 (XGo.ifp h9 ?_)⟩
        · have e0 : flS dt (p + 1) = none := by
            show (match flS dt p with | none => none | some z => _) = none
            rw [hz]
            exact if_pos h9
          have e := flS_none e0 q
          unfold flR
          dsimp only
          rw [show n = p + 1 + q by omega, e]
          exact up rA m5 c1000
        · refine XGo.go 2 rfl ?_
          refine XGo.putf rfl r0 (by omega) (by omega) (show 7 < 12 by decide) rfl rfl ?_
          show XGo _ _ (42, _, [], xup h b (.inl (0, coF b i m5 ld an wn dn))) _ _
          rw [hA]
          refine XGo.go 2 rfl ?_
          refine XGo.putf rfl rA.1 (by omega) (by omega) (show 8 < 12 by decide) rfl rfl ?_
          exact XGo.vret _ rfl rfl rfl
      · have next : ∀ {v : Option Value} {hend h1 : XH}, XGo (d + 1) xm_X0_findLast (15, [some (.ref b), some (.int (nI n)), some (.int (nI (p + 1))), some (.int (dt p))], [], h1) v hend → XGo (d + 1) xm_X0_findLast (77, [some (.ref b), some (.int (nI n)), some (.int (nI p)), some (.int (dt p))], [], h1) v hend := fun k => by
          refine XGo.go 2 rfl ?_
          show XGo _ _ (15, [some (.ref b), some (.int (nI n)), some (.int (nI p + Int32.ofInt 1)), _], [], _) _ _
          rw [show nI p + Int32.ofInt 1 = nI (p + 1) from nI_1 p]
          exact k
        have c2 : ∀ {v : Option Value} {hend : XH}, XGo (d + 1) xm_X0_findLast (if lt = m5 then 67 else 59, [some (.ref b), some (.int (nI n)), some (.int (nI p)), some (.int (dt p))], [], h) v hend → XGo (d + 1) xm_X0_findLast (50, [some (.ref b), some (.int (nI n)), some (.int (nI p)), some (.int (dt p))], [], h) v hend := fun k => by
          refine XGo.go 1 rfl ?_
          refine XGo.getf rfl (xfd_o r0 (by omega) (by omega) rfl) ?_
          exact XGo.go 2 rfl k
        have c3 : ∀ {v : Option Value} {hend : XH}, XGo (d + 1) xm_X0_findLast (if dt p ≤ ld then 77 else 67, [some (.ref b), some (.int (nI n)), some (.int (nI p)), some (.int (dt p))], [], h) v hend → XGo (d + 1) xm_X0_findLast (59, [some (.ref b), some (.int (nI n)), some (.int (nI p)), some (.int (dt p))], [], h) v hend := fun k => by
          refine XGo.go 2 rfl ?_
          refine XGo.getf rfl (xfd_o r0 (by omega) (by omega) rfl) ?_
          exact XGo.go 1 rfl k
        have stp : flS dt (p + 1) = if lt = m5 ∨ ¬ dt p ≤ ld then some (nI p, dt p) else some (lt, ld) := by
          show (match flS dt p with | none => none | some z => _) = _
          rw [hz]
          exact if_neg h9
        by_cases ht : lt = m5 ∨ ¬ dt p ≤ ld
        · have rA := up hr (nI p) ld
          have oA : CRo b h (xup h b (.inl (0, coF b i (nI p) ld an wn dn))) := CRo.up (Or.inl rfl) _
          generalize hA : xup h b (.inl (0, coF b i (nI p) ld an wn dn)) = A at rA oA
          have lA : b + 6 < A.1 := by rw [oA.1]; exact hN
          rw [if_pos ht] at stp
          refine XGe.map (fun v hend k => c1 (XGo.ifn h9 (c2 ?_))) (last_l (x := ((an, wn, dn), bi, dt, ch)) h20 hn hb fin q (p + 1) (xup A b (.inl (0, coF b i (nI p) (dt p) an wn dn))) (nI p) (dt p) (some (.int (dt p))) (by omega) ((ho.trans oA).trans (CRo.up (Or.inl rfl) _)) (up rA (nI p) (dt p)) stp)
          have g : XGo (d + 1) xm_X0_findLast (67, [some (.ref b), some (.int (nI n)), some (.int (nI p)), some (.int (dt p))], [], h) v hend := by
            refine XGo.go 2 rfl ?_
            refine XGo.putf rfl r0 (by omega) (by omega) (show 7 < 12 by decide) rfl rfl ?_
            show XGo _ _ (72, _, [], xup h b (.inl (0, coF b i (nI p) ld an wn dn))) _ _
            rw [hA]
            refine XGo.go 2 rfl ?_
            refine XGo.putf rfl rA.1 (by omega) (by omega) (show 8 < 12 by decide) rfl rfl ?_
            exact next k
          by_cases hl : lt = m5
          · exact XGo.ifp hl g
          · exact XGo.ifn hl (c3 (XGo.ifn (ht.resolve_left hl) g))
        · rw [if_neg ht] at stp
          have hl : ¬ lt = m5 := fun q => ht (Or.inl q)
          have hd : dt p ≤ ld := Classical.byContradiction fun q => ht (Or.inr q)
          exact XGe.map (fun v hend k => c1 (XGo.ifn h9 (c2 (XGo.ifn hl (c3 (XGo.ifp hd (next k))))))) (last_l (x := ((an, wn, dn), bi, dt, ch)) h20 hn hb fin q (p + 1) h lt ld (some (.int (dt p))) (by omega) ho hr stp)
  termination_by q => q
set_option maxRecDepth 100000 in
theorem k_findLast (d : Nat) {h : XH} {b : Nat} {i lt ld : Int32} {x : CX} {n : Nat} (h20 : 20 ≤ b) (hb : b + 6 < h.1) (hn : n ≤ 8) (hr : CR h b i lt ld x) : ∃ h1 : XH, XCall xM (d + 2) 5 [.ref b, .int (nI n)] h none h1 ∧ CRo b h h1 ∧ CR h1 b i (flR x.2.2.1 n).1 (flR x.2.2.1 n).2 x := by
  obtain ⟨⟨an, wn, dn⟩, bi, dt, ch⟩ := x
  obtain ⟨r0, r4, r5, r6⟩ := id hr
  dsimp only at r0 r4 r5 r6
  have up : ∀ {h : XH} {lt ld : Int32}, CR h b i lt ld ((an, wn, dn), bi, dt, ch) → ∀ lt' ld', CR (xup h b (.inl (0, coF b i lt' ld' an wn dn))) b i lt' ld' ((an, wn, dn), bi, dt, ch) := fun {h lt ld} hr lt' ld' => ⟨xup_eq _ _ _, (xup_ne _ _ (by omega)).trans hr.2.1, (xup_ne _ _ (by omega)).trans hr.2.2.1, (xup_ne _ _ (by omega)).trans hr.2.2.2⟩
  have rA := up hr m5 ld
  have oA : CRo b h (xup h b (.inl (0, coF b i m5 ld an wn dn))) := CRo.up (Or.inl rfl) _
  generalize hA : xup h b (.inl (0, coF b i m5 ld an wn dn)) = A at rA oA
  have lA : b + 6 < A.1 := by rw [oA.1]; exact hb
  have rB := up rA m5 c1000
  have oB : CRo b A (xup A b (.inl (0, coF b i m5 c1000 an wn dn))) := CRo.up (Or.inl rfl) _
  generalize hB : xup A b (.inl (0, coF b i m5 c1000 an wn dn)) = B at rB oB
  obtain ⟨v, C, ⟨rfl, oC, rC⟩, k⟩ := last_l (d := d) (n := n) (h0 := h) (Q := fun v h1 => v = none ∧ CRo b h h1 ∧ CR h1 b i (flR dt n).1 (flR dt n).2 ((an, wn, dn), bi, dt, ch)) h20 hn hb (x := ((an, wn, dn), bi, dt, ch)) (fun h1 o r => ⟨rfl, o, r⟩) n 0 B m5 c1000 none (by omega) (oA.trans oB) rB rfl
  refine ⟨C, XCall.of (M := xm_X0_findLast) rfl (Nat.le_of_ble_eq_true rfl) ?_, oC, rC⟩
  refine XGo.go 2 rfl ?_
  refine XGo.putf rfl r0 (by omega) (by omega) (show 7 < 12 by decide) rfl rfl ?_
  show XGo _ _ (6, _, [], xup h b (.inl (0, coF b i m5 ld an wn dn))) _ _
  rw [hA]
  refine XGo.go 2 rfl ?_
  refine XGo.putf rfl rA.1 (by omega) (by omega) (show 8 < 12 by decide) rfl rfl ?_
  show XGo _ _ (13, _, [], xup A b (.inl (0, coF b i m5 c1000 an wn dn))) _ _
  rw [hB]
  refine XGo.go 2 rfl ?_
  exact k
