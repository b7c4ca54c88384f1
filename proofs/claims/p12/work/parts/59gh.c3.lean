/-! lives: c3 -/
theorem coK_bit {pa ch : Nat → Int32} {j : Nat} (hc : ∀ p, p < 14 → ∀ t, t < 32 → (lvB (ch p) t ↔ t < j ∧ pa t = nI p)) (hj : j < 32) {p t : Nat} (hp : p < 14) (ht : t < 32) : lvB (coK ch (pa j) j p) t ↔ t < j + 1 ∧ pa t = nI p := by
  unfold coK
  have key : pa j = nI p → ¬ (pa j < 0 ∨ 14 ≤ (pa j).toNatClampNeg) ∧ (pa j).toNatClampNeg = p := fun e => by
    rw [e, xnI_nat (by omega)]
    exact ⟨fun q => q.elim (xnI_lt0 (by omega)) (by omega), rfl⟩
  by_cases c : pa j < 0 ∨ 14 ≤ (pa j).toNatClampNeg
  · rw [if_pos c, hc p hp t ht]
    constructor
    · exact fun q => ⟨by omega, q.2⟩
    · rintro ⟨q1, q2⟩
      refine ⟨?_, q2⟩
      by_cases e : t = j
      · rw [e] at q2
        exact absurd c (key q2).1
      · omega
  · rw [if_neg c]
    have hn : pa j = nI (pa j).toNatClampNeg := (i32_nI (hi := 13) (Int.not_lt.mp fun q => c (Or.inl (Int32.lt_iff_toInt_lt.mpr (by rw [show (0 : Int32).toInt = 0 by decide]; exact q)))) (by
      have e2 : (pa j).toNatClampNeg = (pa j).toInt.toNat := rfl
      omega)).1
    by_cases e : p = (pa j).toNatClampNeg
    · rw [e, upd_at, lvB_or ht hj, ← e, hc p hp t ht]
      constructor
      · rintro (q | q)
        · exact ⟨by omega, q.2⟩
        · rw [q]
          exact ⟨by omega, hn.trans (by rw [← e])⟩
      · rintro ⟨q1, q2⟩
        by_cases e3 : t = j
        · exact Or.inr e3
        · exact Or.inl ⟨by omega, q2⟩
    · rw [upd_ne e, hc p hp t ht]
      constructor
      · exact fun q => ⟨by omega, q.2⟩
      · rintro ⟨q1, q2⟩
        refine ⟨?_, q2⟩
        by_cases e3 : t = j
        · rw [e3] at q2
          exact absurd (key q2).2.symm e
        · omega
/-- one row alone is written -/
def RO (r : Nat) (h h1 : XH) : Prop := h1.1 = h.1 ∧ h1.2.1 = h.2.1 ∧ ∀ k, ¬ k = r → h1.2.2 k = h.2.2 k
theorem RO.cr {r b : Nat} {h h1 : XH} (a : RO r h h1) (hp : r = b ∨ r = b + 4 ∨ r = b + 5 ∨ r = b + 6) : CRo b h h1 := ⟨a.1, a.2.1, fun k hk => a.2.2 k (fun q => hk (by rw [q]; exact hp))⟩
set_option maxRecDepth 100000 in
theorem fill_l {d : Nat} {r n : Nat} (x : Int32) (hn : n < 2147483648) (h13 : 13 ≤ r) {h0 : XH} (hr : r < h0.1) {Q : Option Value → XH → Prop} (fin : ∀ (h1 : XH) (g : Nat → Int32), RO r h0 h1 → h1.2.2 r = .inr (.inl (0, n, g)) → (∀ j, j < n → g j = x) → Q none h1) : ∀ (q i : Nat) (h : XH) (f : Nat → Int32), i + q = n → RO r h0 h → h.2.2 r = .inr (.inl (0, n, f)) → (∀ j, j < i → f j = x) → XGe d xm_X6_fill (2, [some (.ref r), some (.int x), some (.int (nI i))], [], h) Q
  | q, i, h, f, hi, ho, hf, hj => by
    have lr : r < h.1 := by rw [ho.1]; exact hr
    have head : ∀ {v : Option Value} {hend : XH}, XGo d xm_X6_fill (if nI n ≤ nI i then 18 else 8, [some (.ref r), some (.int x), some (.int (nI i))], [], h) v hend → XGo d xm_X6_fill (2, [some (.ref r), some (.int x), some (.int (nI i))], [], h) v hend := fun k => by
      refine XGo.go 2 rfl ?_
      refine XGo.alen rfl (xlen_i hf lr (by decide)) ?_
      exact XGo.go 1 rfl k
    match q, hi with
    | 0, hi =>
      have hi : i = n := by omega
      subst hi
      exact ⟨none, h, fin h f ho hf hj, head (XGo.ifp (Int32.le_refl _) (XGo.vret _ rfl rfl rfl))⟩
    | q + 1, hi =>
      have hin : i < n := by omega
      have cn : ¬ nI n ≤ nI i := fun z => absurd ((xnI_ge hn (by omega)).mp z) (by omega)
      have oB : RO r h0 (xup h r (.inr (.inl (0, n, upd f i x)))) := ⟨ho.1, ho.2.1, fun k hk => (xup_ne h _ hk).trans (ho.2.2 k hk)⟩
      refine XGe.map (fun v hend k => head (XGo.ifn cn ?_)) (fill_l x hn h13 hr fin q (i + 1) (xup h r (.inr (.inl (0, n, upd f i x)))) (upd f i x) (by omega) oB (xup_eq _ _ _) (fun j hj2 => ?_))
      · refine XGo.go 3 rfl ?_
        refine XGo.iast rfl hf lr h13 (ca_nI hin hn) ?_
        rw [xnI_nat (by omega)]
        refine XGo.go 2 rfl ?_
        show XGo _ _ (2, [some (.ref r), some (.int x), some (.int (nI i + Int32.ofInt 1))], [], xup h r (.inr (.inl (0, n, upd f i x)))) _ _
        rw [show nI i + Int32.ofInt 1 = nI (i + 1) from nI_1 i]
        exact k
      · by_cases e : j = i
        · rw [e, upd_at]
        · rw [upd_ne e]
          exact hj j (by omega)
  termination_by q => q
theorem k_fill (d : Nat) {h : XH} {r n : Nat} {f : Nat → Int32} (hf : h.2.2 r = .inr (.inl (0, n, f))) (hr : r < h.1) (h13 : 13 ≤ r) (hn : n < 2147483648) (x : Int32) : ∃ (h1 : XH) (g : Nat → Int32), XCall xM (d + 1) 105 [.ref r, .int x] h none h1 ∧ RO r h h1 ∧ h1.2.2 r = .inr (.inl (0, n, g)) ∧ ∀ j, j < n → g j = x := by
  obtain ⟨v, h1, ⟨rfl, g, o, e, j⟩, k⟩ := fill_l (d := d) x hn h13 hr (Q := fun v h1 => v = none ∧ ∃ g : Nat → Int32, RO r h h1 ∧ h1.2.2 r = .inr (.inl (0, n, g)) ∧ ∀ j, j < n → g j = x) (fun h1 g o e j => ⟨rfl, g, o, e, j⟩) n 0 h f (by omega) ⟨rfl, rfl, fun _ _ => rfl⟩ hf (fun j hj => absurd hj (by omega))
  exact ⟨h1, g, XCall.of (M := xm_X6_fill) rfl (Nat.le_of_ble_eq_true rfl) (XGo.go 2 rfl k), o, e, j⟩
/-- the world that a course is learnt from -/
def WK (h : XH) (fw : List Value) (n m : Nat) (ag pa ki wh ye : Nat → Int32) : Prop := h.1 = 549 ∧ h.2.2 14 = .inl (5, fw) ∧ (fw[0]? = some (.int (nI n)) ∧ fw[1]? = some (.ref 15) ∧ fw[2]? = some (.ref 16) ∧ fw[3]? = some (.int (nI m)) ∧ fw[4]? = some (.ref 17) ∧ fw[5]? = some (.ref 18) ∧ fw[6]? = some (.ref 19)) ∧ h.2.2 15 = .inr (.inl (0, 8, ag)) ∧ h.2.2 16 = .inr (.inl (0, 8, pa)) ∧ h.2.2 17 = .inr (.inl (0, 6, ki)) ∧ h.2.2 18 = .inr (.inl (0, 6, wh)) ∧ h.2.2 19 = .inr (.inl (0, 6, ye))
theorem WK.cr {h h1 : XH} {fw : List Value} {n m : Nat} {ag pa ki wh ye : Nat → Int32} (k : WK h fw n m ag pa ki wh ye) {b : Nat} (hb : 20 ≤ b) (o : CRo b h h1) : WK h1 fw n m ag pa ki wh ye := by
  obtain ⟨a, c, e, r1, r2, r3, r4, r5⟩ := k
  exact ⟨o.1.trans a, (o.2.2 14 (by omega)).trans c, e, (o.2.2 15 (by omega)).trans r1, (o.2.2 16 (by omega)).trans r2, (o.2.2 17 (by omega)).trans r3, (o.2.2 18 (by omega)).trans r4, (o.2.2 19 (by omega)).trans r5⟩
abbrev coL (b : Nat) (l2 : Option Value) : XL := [some (.ref b), some (.ref 14), l2]
set_option maxRecDepth 100000 in
theorem start_l {d : Nat} {b : Nat} {i lt ld : Int32} {fw : List Value} {n m : Nat} {ag pa ki wh ye : Nat → Int32} (h20 : 20 ≤ b) (hb : b + 6 < 549) (hn : n ≤ 8) {h0 : XH} {an wn dn : Int32} {dt0 : Nat → Int32} {Q : Option Value → XH → Prop} (fin : ∀ (h1 : XH) (bi ch : Nat → Int32), CRo b h0 h1 → CR h1 b i lt ld ((an, wn, dn), bi, dt0, ch) → (∀ j, j < 14 → bi j = if j < n then - ag j else c1000) → (∀ p, p < 14 → ∀ t, t < 32 → (lvB (ch p) t ↔ t < n ∧ pa t = nI p)) → Q none h1) : ∀ (q j : Nat) (h : XH) (bi ch : Nat → Int32), j + q = n → WK h fw n m ag pa ki wh ye → CRo b h0 h → CR h b i lt ld ((an, wn, dn), bi, dt0, ch) → (∀ t, t < 14 → bi t = if t < j then - ag t else c1000) → (∀ p, p < 14 → ∀ t, t < 32 → (lvB (ch p) t ↔ t < j ∧ pa t = nI p)) → XGe (d + 2) xm_X0_start (52, coL b (some (.int (nI j))), [], h) Q
  | q, j, h, bi, ch, hi, hw, ho, hr, hj, hc => by
    obtain ⟨hN, h14, ⟨w0, w1, w2, w3, w4, w5, w6⟩, r15, r16, r17, r18, r19⟩ := id hw
    obtain ⟨r0, r4, r5, r6⟩ := id hr
    have l14 : 14 < h.1 := by omega
    have head : ∀ {v : Option Value} {hend : XH}, XGo (d + 2) xm_X0_start (if nI n ≤ nI j then 96 else 60, coL b (some (.int (nI j))), [], h) v hend → XGo (d + 2) xm_X0_start (52, coL b (some (.int (nI j))), [], h) v hend := fun k => by
      refine XGo.go 2 rfl ?_
      refine XGo.getf rfl (xfd_o h14 l14 (by decide) w0) ?_
      exact XGo.go 1 rfl k
    match q, hi with
    | 0, hi =>
      have hi : j = n := by omega
      subst hi
      exact ⟨none, h, fin h bi ch ho hr hj hc, head (XGo.ifp (Int32.le_refl _) (XGo.vret _ rfl rfl rfl))⟩
    | q + 1, hi =>
      have hjn : j < n := by omega
      have cn : ¬ nI n ≤ nI j := fun z => absurd ((xnI_ge (by omega) (by omega)).mp z) (by omega)
      have a1 := k_at (d + 1) h 15 8 ag (nI j) r15 (by omega) (by decide)
      rw [if_neg (ca_nI (by omega) (by decide)), xnI_nat (by omega)] at a1
      have q1 := k_put_in (d + 1) h (b + 4) 14 bi (nI j) (- ag j) r4 (by omega) (by omega) (by decide) (ca_nI (by omega) (by decide))
      rw [xnI_nat (by omega)] at q1
      have oA : CRo b h (xup h (b + 4) (.inr (.inl (0, 14, upd bi j (- ag j))))) := CRo.up (Or.inr (Or.inl rfl)) _
      have rA : CR (xup h (b + 4) (.inr (.inl (0, 14, upd bi j (- ag j))))) b i lt ld ((an, wn, dn), upd bi j (- ag j), dt0, ch) := ⟨(xup_ne _ _ (by omega)).trans r0, xup_eq _ _ _, (xup_ne _ _ (by omega)).trans r5, (xup_ne _ _ (by omega)).trans r6⟩
      generalize hA : xup h (b + 4) (.inr (.inl (0, 14, upd bi j (- ag j)))) = A at q1 oA rA
      have wA := hw.cr h20 oA
      obtain ⟨AN, A14, -, A15, A16, -⟩ := id wA
      have a2 := k_at (d + 1) A 16 8 pa (nI j) A16 (by omega) (by decide)
      rw [if_neg (ca_nI (by omega) (by decide)), xnI_nat (by omega)] at a2
      obtain ⟨B, cB, oB, rB⟩ := k_addChild d rA (by omega) (by omega) (pa j) j
      refine XGe.map (fun v hend k => head (XGo.ifn cn ?_)) (start_l h20 hb hn fin q (j + 1) B _ _ (by omega) (wA.cr h20 oB) ((ho.trans oA).trans oB) rB (fun t ht => ?_) (fun p hp t ht => ?_))
      · refine XGo.go 1 rfl ?_
        refine XGo.getf rfl (xfd_o r0 (by omega) (by omega) rfl) ?_
        refine XGo.go 2 rfl ?_
        refine XGo.getf rfl (xfd_o h14 l14 (by decide) w1) ?_
        refine XGo.go 1 rfl ?_
        refine XGo.call _ rfl xm_X6_at rfl rfl [.ref 15, .int (nI j)] [.int (nI j), .ref (b + 4)] rfl rfl (fun z => absurd rfl z) (Nat.le_of_ble_eq_true rfl) a1 ?_
        refine XGo.go 1 rfl ?_
        refine XGo.call _ rfl xm_X6_put rfl rfl [.ref (b + 4), .int (nI j), .int (- ag j)] [] rfl rfl (fun z => absurd rfl z) (Nat.le_of_ble_eq_true rfl) q1 ?_
        refine XGo.go 2 rfl ?_
        refine XGo.getf rfl (xfd_o A14 (by omega) (by decide) w2) ?_
        refine XGo.go 1 rfl ?_
        refine XGo.call _ rfl xm_X6_at rfl rfl [.ref 16, .int (nI j)] [.ref b] rfl rfl (fun z => absurd rfl z) (Nat.le_of_ble_eq_true rfl) a2 ?_
        refine XGo.go 1 rfl ?_
        refine XGo.call _ rfl xm_X0_addChild rfl rfl [.ref b, .int (pa j), .int (nI j)] [] rfl rfl (fun _ => ⟨b, _, rfl, rA.1, by omega, by omega⟩) (Nat.le_of_ble_eq_true rfl) cB ?_
        refine XGo.go 2 rfl ?_
        show XGo _ _ (52, [some (.ref b), some (.ref 14), some (.int (nI j + Int32.ofInt 1))], [], B) _ _
        rw [show nI j + Int32.ofInt 1 = nI (j + 1) from nI_1 j]
        exact k
      · show upd bi j (- ag j) t = _
        by_cases e : t = j
        · rw [e, upd_at, if_pos (by omega)]
        · rw [upd_ne e, hj t ht]
          by_cases e2 : t < j
          · rw [if_pos e2, if_pos (by omega)]
          · rw [if_neg e2, if_neg (by omega)]
      · exact coK_bit hc (by omega) hp ht
  termination_by q => q
