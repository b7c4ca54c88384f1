/-! lives: c7 -/
set_option maxRecDepth 100000 in
theorem learn_y {d : Nat} {b : Nat} {i lt ld : Int32} {fw : List Value} {n m : Nat} {ag pa ki wh ye : Nat → Int32} (h20 : 20 ≤ b) (hb : b + 6 < 549) (hm : m ≤ 6) (hwh : ∀ k, k < m → 0 ≤ (wh k).toInt ∧ (wh k).toInt ≤ 13) (set : Int32) {h0 : XH} {x0 : CX} {Q : Option Value → XH → Prop} (fin : ∀ (h1 : XH) (l4 : Option Value) (al we de : Nat → Int32), CBo b h0 h1 → WK h1 fw n m ag pa ki wh ye → CR h1 b i lt ld (coY ki wh ye set m 41 x0) → CA h1 b al we de → (∀ t, t < 41 → (al t, we t, de t) = (coY ki wh ye set m (t + 1) x0).1) → XGe (d + 3) xm_X0_learn (115, leL b set 41 l4, [], h1) Q) : ∀ (q y : Nat) (h : XH) (l4 : Option Value) (al we de : Nat → Int32), y + q = 41 → CBo b h0 h → WK h fw n m ag pa ki wh ye → CR h b i lt ld (coY ki wh ye set m y x0) → CA h b al we de → (∀ t, t < y → (al t, we t, de t) = (coY ki wh ye set m (t + 1) x0).1) → XGe (d + 3) xm_X0_learn (7, leL b set y l4, [], h) Q
  | 0, y, h, l4, al, we, de, hy, ho, hw, hr, ha, ht => by
    have hy : y = 41 := by omega
    subst hy
    refine XGe.map (fun v hend g => ?_) (fin h l4 al we de ho hw hr ha ht)
    refine XGo.go 3 rfl ?_
    exact XGo.ifp (show (Int8.ofInt 41).toInt32 ≤ nI 41 by decide) g
  | q + 1, y, h, l4, al, we, de, hy, ho, hw, hr, ha, ht => by
    have hy41 : y < 41 := by omega
    have c41 : ¬ (Int8.ofInt 41).toInt32 ≤ nI y := fun z => absurd ((xnI_ge (m := 41) (by decide) (by omega)).mp z) (by omega)
    refine XGe.map (fun v hend g => ?_) (learn_m (h0 := h) (x0 := coY ki wh ye set m y x0) h20 hb hm hwh set y (fun h1 l4 o1 w1 r1 => ?_) m 0 h (by omega) (CRo.refl b h) hw hr)
    · refine XGo.go 3 rfl ?_
      refine XGo.ifn c41 ?_
      exact XGo.go 2 rfl g
    · have hN : h1.1 = 549 := w1.1
      have a1 := ha.cr o1
      have eY : coM ki wh ye set y m (coY ki wh ye set m y x0) = coY ki wh ye set m (y + 1) x0 := rfl
      rw [eY] at r1
      generalize hX : coY ki wh ye set m (y + 1) x0 = X at r1
      obtain ⟨⟨an, wn, dn⟩, bi, dt, ch⟩ := X
      obtain ⟨r0, r4, r5, r6⟩ := id r1
      dsimp only at r0 r4 r5 r6
      obtain ⟨a0, a2, a3⟩ := id a1
      -- three rows
      have r0A : (xup h1 (b + 1) (.inr (.inl (0, 41, upd al y an)))).2.2 b = .inl (0, coF b i lt ld an wn dn) := (xup_ne _ _ (by omega)).trans r0
      have aA : CA (xup h1 (b + 1) (.inr (.inl (0, 41, upd al y an)))) b (upd al y an) we de := ⟨xup_eq _ _ _, (xup_ne _ _ (by omega)).trans a2, (xup_ne _ _ (by omega)).trans a3⟩
      have oA : CBo b h1 (xup h1 (b + 1) (.inr (.inl (0, 41, upd al y an)))) := CBo.up (by omega) (by omega) _
      have rA : CR (xup h1 (b + 1) (.inr (.inl (0, 41, upd al y an)))) b i lt ld ((an, wn, dn), bi, dt, ch) := ⟨r0A, (xup_ne _ _ (by omega)).trans r4, (xup_ne _ _ (by omega)).trans r5, (xup_ne _ _ (by omega)).trans r6⟩
      generalize hA : xup h1 (b + 1) (.inr (.inl (0, 41, upd al y an))) = A at r0A aA oA rA
      have lA : A.1 = 549 := oA.1.trans hN
      have aB : CA (xup A (b + 2) (.inr (.inl (0, 41, upd we y wn)))) b (upd al y an) (upd we y wn) de := ⟨(xup_ne _ _ (by omega)).trans aA.1, xup_eq _ _ _, (xup_ne _ _ (by omega)).trans aA.2.2⟩
      have oB : CBo b A (xup A (b + 2) (.inr (.inl (0, 41, upd we y wn)))) := CBo.up (by omega) (by omega) _
      have rB : CR (xup A (b + 2) (.inr (.inl (0, 41, upd we y wn)))) b i lt ld ((an, wn, dn), bi, dt, ch) := ⟨(xup_ne _ _ (by omega)).trans rA.1, (xup_ne _ _ (by omega)).trans rA.2.1, (xup_ne _ _ (by omega)).trans rA.2.2.1, (xup_ne _ _ (by omega)).trans rA.2.2.2⟩
      generalize hB : xup A (b + 2) (.inr (.inl (0, 41, upd we y wn))) = B at aB oB rB
      have lB : B.1 = 549 := oB.1.trans lA
      have aC : CA (xup B (b + 3) (.inr (.inl (0, 41, upd de y dn)))) b (upd al y an) (upd we y wn) (upd de y dn) := ⟨(xup_ne _ _ (by omega)).trans aB.1, (xup_ne _ _ (by omega)).trans aB.2.1, xup_eq _ _ _⟩
      have oC : CBo b B (xup B (b + 3) (.inr (.inl (0, 41, upd de y dn)))) := CBo.up (by omega) (by omega) _
      have rC : CR (xup B (b + 3) (.inr (.inl (0, 41, upd de y dn)))) b i lt ld ((an, wn, dn), bi, dt, ch) := ⟨(xup_ne _ _ (by omega)).trans rB.1, (xup_ne _ _ (by omega)).trans rB.2.1, (xup_ne _ _ (by omega)).trans rB.2.2.1, (xup_ne _ _ (by omega)).trans rB.2.2.2⟩
      generalize hC : xup B (b + 3) (.inr (.inl (0, 41, upd de y dn))) = C at aC oC rC
      have oAll : CBo b h1 C := (oA.trans oB).trans oC
      refine XGe.map (fun v hend g => ?_) (learn_y h20 hb hm hwh set fin q (y + 1) C l4 (upd al y an) (upd we y wn) (upd de y dn) (by omega) ((ho.trans o1.cb).trans oAll) (w1.cb h20 oAll) (by rw [hX]; exact rC) aC (fun t ht2 => ?_))
      · refine XGo.go 1 rfl ?_
        refine XGo.getf rfl (xfd_o r0 (by omega) (by omega) rfl) ?_
        refine XGo.go 2 rfl ?_
        refine XGo.getf rfl (xfd_o r0 (by omega) (by omega) rfl) ?_
        refine XGo.iast rfl a0 (by omega) (by omega) (ca_nI hy41 (by decide)) ?_
        rw [xnI_nat (by omega), hA]
        refine XGo.go 1 rfl ?_
        refine XGo.getf rfl (xfd_o rA.1 (by omega) (by omega) rfl) ?_
        refine XGo.go 2 rfl ?_
        refine XGo.getf rfl (xfd_o rA.1 (by omega) (by omega) rfl) ?_
        refine XGo.iast rfl aA.2.1 (by omega) (by omega) (ca_nI hy41 (by decide)) ?_
        rw [xnI_nat (by omega), hB]
        refine XGo.go 1 rfl ?_
        refine XGo.getf rfl (xfd_o rB.1 (by omega) (by omega) rfl) ?_
        refine XGo.go 2 rfl ?_
        refine XGo.getf rfl (xfd_o rB.1 (by omega) (by omega) rfl) ?_
        refine XGo.iast rfl aB.2.2 (by omega) (by omega) (ca_nI hy41 (by decide)) ?_
        rw [xnI_nat (by omega), hC]
        refine XGo.go 2 rfl ?_
        show XGo _ _ (7, [some (.ref b), some (.ref 14), some (.int set), some (.int (nI y + Int32.ofInt 1)), l4], [], C) _ _
        rw [show nI y + Int32.ofInt 1 = nI (y + 1) from nI_1 y]
        exact g
      · by_cases e : t = y
        · rw [e, upd_at, upd_at, upd_at, hX]
        · rw [upd_ne e, upd_ne e, upd_ne e]
          exact ht t (by omega)
set_option maxRecDepth 100000 in
/-- a course learnt: what it holds then -/
theorem k_learn (d : Nat) {h : XH} {b : Nat} {i lt ld : Int32} {x : CX} {al we de : Nat → Int32} {fw : List Value} {n m : Nat} {ag pa ki wh ye : Nat → Int32} (h20 : 20 ≤ b) (hb : b + 6 < 549) (hn : n ≤ 8) (hm : m ≤ 6) (hwh : ∀ k, k < m → 0 ≤ (wh k).toInt ∧ (wh k).toInt ≤ 13) (hw : WK h fw n m ag pa ki wh ye) (hr : CR h b i lt ld x) (ha : CA h b al we de) (set : Int32) : ∃ (h1 : XH) (x0 : CX) (al' we' de' : Nat → Int32), XCall xM (d + 4) 1 [.ref b, .ref 14, .int set] h none h1 ∧ CBo b h h1 ∧ CR h1 b (Int32.ofInt 1) (flR (coY ki wh ye set m 41 x0).2.2.1 n).1 (flR (coY ki wh ye set m 41 x0).2.2.1 n).2 (coY ki wh ye set m 41 x0) ∧ CA h1 b al' we' de' ∧ (∀ t, t < 41 → (al' t, we' t, de' t) = (coY ki wh ye set m (t + 1) x0).1) ∧ x0.1 = ((Int32.ofInt 1 <<< (nI n &&& 31)) - Int32.ofInt 1, Int32.ofInt 0, Int32.ofInt 0) ∧ (∀ j, j < 14 → x0.2.1 j = if j < n then - ag j else c1000) ∧ (∀ j, j < 14 → x0.2.2.1 j = c1000) ∧ ∀ p, p < 14 → ∀ t, t < 32 → (lvB (x0.2.2.2 p) t ↔ t < n ∧ pa t = nI p) := by
  obtain ⟨A, x0, cA, oA, rA, e1, e2, e3, e4⟩ := k_start d h20 hb hn hw hr
  have wA := hw.cr h20 oA
  obtain ⟨v, B, ⟨rfl, al', we', de', oB, rB, aB, tB⟩, g⟩ := learn_y (d := d) (h0 := h) (x0 := x0) (i := i) (lt := lt) (ld := ld) (Q := fun v h1 => v = none ∧ ∃ al' we' de' : Nat → Int32, CBo b h h1 ∧ CR h1 b (Int32.ofInt 1) (flR (coY ki wh ye set m 41 x0).2.2.1 n).1 (flR (coY ki wh ye set m 41 x0).2.2.1 n).2 (coY ki wh ye set m 41 x0) ∧ CA h1 b al' we' de' ∧ ∀ t, t < 41 → (al' t, we' t, de' t) = (coY ki wh ye set m (t + 1) x0).1) h20 hb hm hwh set (fun h1 l4 al we de o1 w1 r1 a1 t1 => by
    obtain ⟨hN1, h14, ⟨w0, -⟩, -⟩ := id w1
    obtain ⟨C, cC, oC, rC⟩ := k_findLast (d + 1) h20 (by omega) hn r1
    have lC : C.1 = 549 := oC.1.trans hN1
    generalize hX : coY ki wh ye set m 41 x0 = X at r1 rC ⊢
    obtain ⟨⟨an, wn, dn⟩, bi, dt, ch⟩ := X
    have rD : CR (xup C b (.inl (0, coF b (Int32.ofInt 1) (flR dt n).1 (flR dt n).2 an wn dn))) b (Int32.ofInt 1) (flR dt n).1 (flR dt n).2 ((an, wn, dn), bi, dt, ch) := ⟨xup_eq _ _ _, (xup_ne _ _ (by omega)).trans rC.2.1, (xup_ne _ _ (by omega)).trans rC.2.2.1, (xup_ne _ _ (by omega)).trans rC.2.2.2⟩
    have oD : CRo b C (xup C b (.inl (0, coF b (Int32.ofInt 1) (flR dt n).1 (flR dt n).2 an wn dn))) := CRo.up (Or.inl rfl) _
    refine ⟨none, _, ⟨rfl, al, we, de, (o1.trans oC.cb).trans oD.cb, rD, (a1.cr oC).cr oD, t1⟩, ?_⟩
    refine XGo.go 2 rfl ?_
    refine XGo.getf rfl (xfd_o h14 (by omega) (by decide) w0) ?_
    refine XGo.call _ rfl xm_X0_findLast rfl rfl [.ref b, .int (nI n)] [] rfl rfl (fun _ => ⟨b, _, rfl, r1.1, by omega, by omega⟩) (Nat.le_of_ble_eq_true rfl) cC ?_
    refine XGo.go 2 rfl ?_
    refine XGo.putf rfl rC.1 (by omega) (by omega) (show 0 < 12 by decide) rfl rfl ?_
    exact XGo.vret _ rfl rfl rfl) 41 0 A none al we de (by decide) oA.cb wA rA (ha.cr oA) (fun t ht => absurd ht (by omega))
  refine ⟨B, x0, al', we', de', XCall.of (M := xm_X0_learn) rfl (Nat.le_of_ble_eq_true rfl) ?_, oB, rB, aB, tB, e1, e2, e3, e4⟩
  refine XGo.go 2 rfl ?_
  refine XGo.call _ rfl xm_X0_start rfl rfl [.ref b, .ref 14] [] rfl rfl (fun _ => ⟨b, _, rfl, hr.1, by omega, by rw [hw.1]; omega⟩) (Nat.le_of_ble_eq_true rfl) cA ?_
  refine XGo.go 2 rfl ?_
  exact g
