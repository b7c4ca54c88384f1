/-! a course learnt -/
def coM (ki wh ye : Nat → Int32) (set : Int32) (y : Nat) : Nat → CX → CX
  | 0, x => x
  | k + 1, x => if lvB set k ∧ ye k = nI y then coC (ki k) (wh k) (nI y) k (coM ki wh ye set y k x) else coM ki wh ye set y k x
/-- as it stands behind the years below y -/
def coY (ki wh ye : Nat → Int32) (set : Int32) (m : Nat) : Nat → CX → CX
  | 0, x => x
  | y + 1, x => coM ki wh ye set y m (coY ki wh ye set m y x)
def CA (h : XH) (b : Nat) (al we de : Nat → Int32) : Prop := h.2.2 (b + 1) = .inr (.inl (0, 41, al)) ∧ h.2.2 (b + 2) = .inr (.inl (0, 41, we)) ∧ h.2.2 (b + 3) = .inr (.inl (0, 41, de))
theorem CA.cr {h h1 : XH} {b : Nat} {al we de : Nat → Int32} (a : CA h b al we de) (o : CRo b h h1) : CA h1 b al we de := ⟨(o.2.2 _ (by omega)).trans a.1, (o.2.2 _ (by omega)).trans a.2.1, (o.2.2 _ (by omega)).trans a.2.2⟩
/-- only the course is written -/
def CBo (b : Nat) (h h1 : XH) : Prop := h1.1 = h.1 ∧ h1.2.1 = h.2.1 ∧ ∀ k, ¬ (b ≤ k ∧ k ≤ b + 6) → h1.2.2 k = h.2.2 k
theorem CBo.refl (b : Nat) (h : XH) : CBo b h h := ⟨rfl, rfl, fun _ _ => rfl⟩
theorem CBo.trans {b : Nat} {h h1 h2 : XH} (a : CBo b h h1) (c : CBo b h1 h2) : CBo b h h2 := ⟨c.1.trans a.1, c.2.1.trans a.2.1, fun k hk => (c.2.2 k hk).trans (a.2.2 k hk)⟩
theorem CRo.cb {b : Nat} {h h1 : XH} (a : CRo b h h1) : CBo b h h1 := ⟨a.1, a.2.1, fun k hk => a.2.2 k (fun q => hk (by omega))⟩
theorem CBo.up {b : Nat} {h : XH} {p : Nat} (h1 : b ≤ p) (h2 : p ≤ b + 6) (e : XE) : CBo b h (xup h p e) := ⟨rfl, rfl, fun k hk => xup_ne h e (fun q => hk (by omega))⟩
theorem WK.cb {h h1 : XH} {fw : List Value} {n m : Nat} {ag pa ki wh ye : Nat → Int32} (k : WK h fw n m ag pa ki wh ye) {b : Nat} (hb : 20 ≤ b) (o : CBo b h h1) : WK h1 fw n m ag pa ki wh ye := by
  obtain ⟨a, c, e, r1, r2, r3, r4, r5⟩ := k
  exact ⟨o.1.trans a, (o.2.2 14 (by omega)).trans c, e, (o.2.2 15 (by omega)).trans r1, (o.2.2 16 (by omega)).trans r2, (o.2.2 17 (by omega)).trans r3, (o.2.2 18 (by omega)).trans r4, (o.2.2 19 (by omega)).trans r5⟩
abbrev leL (b : Nat) (set : Int32) (y : Nat) (l4 : Option Value) : XL := [some (.ref b), some (.ref 14), some (.int set), some (.int (nI y)), l4]
set_option maxRecDepth 100000 in
theorem learn_m {d : Nat} {b : Nat} {i lt ld : Int32} {fw : List Value} {n m : Nat} {ag pa ki wh ye : Nat → Int32} (h20 : 20 ≤ b) (hb : b + 6 < 549) (hm : m ≤ 6) (hwh : ∀ k, k < m → 0 ≤ (wh k).toInt ∧ (wh k).toInt ≤ 13) (set : Int32) (y : Nat) {h0 : XH} {x0 : CX} {Q : Option Value → XH → Prop} (fin : ∀ (h1 : XH) (l4 : Option Value), CRo b h0 h1 → WK h1 fw n m ag pa ki wh ye → CR h1 b i lt ld (coM ki wh ye set y m x0) → XGe (d + 3) xm_X0_learn (79, leL b set y l4, [], h1) Q) : ∀ (q k : Nat) (h : XH), k + q = m → CRo b h0 h → WK h fw n m ag pa ki wh ye → CR h b i lt ld (coM ki wh ye set y k x0) → XGe (d + 3) xm_X0_learn (16, leL b set y (some (.int (nI k))), [], h) Q
  | q, k, h, hi, ho, hw, hr => by
    obtain ⟨hN, h14, ⟨w0, w1, w2, w3, w4, w5, w6⟩, r15, r16, r17, r18, r19⟩ := id hw
    have l14 : 14 < h.1 := by omega
    have head : ∀ {v : Option Value} {hend : XH}, XGo (d + 3) xm_X0_learn (if nI m ≤ nI k then 79 else 25, leL b set y (some (.int (nI k))), [], h) v hend → XGo (d + 3) xm_X0_learn (16, leL b set y (some (.int (nI k))), [], h) v hend := fun g => by
      refine XGo.go 2 rfl ?_
      refine XGo.getf rfl (xfd_o h14 l14 (by decide) w3) ?_
      exact XGo.go 1 rfl g
    match q, hi with
    | 0, hi =>
      have hi : k = m := by omega
      subst hi
      exact XGe.map (fun v hend g => head (XGo.ifp (Int32.le_refl _) g)) (fin h _ ho hw hr)
    | q + 1, hi =>
      have hkm : k < m := by omega
      have cm : ¬ nI m ≤ nI k := fun z => absurd ((xnI_ge (by omega) (by omega)).mp z) (by omega)
      have next : ∀ {v : Option Value} {hend h1 : XH}, XGo (d + 3) xm_X0_learn (16, leL b set y (some (.int (nI (k + 1)))), [], h1) v hend → XGo (d + 3) xm_X0_learn (73, leL b set y (some (.int (nI k))), [], h1) v hend := fun g => by
        refine XGo.go 2 rfl ?_
        show XGo _ _ (16, [some (.ref b), some (.ref 14), some (.int set), some (.int (nI y)), some (.int (nI k + Int32.ofInt 1))], [], _) _ _
        rw [show nI k + Int32.ofInt 1 = nI (k + 1) from nI_1 k]
        exact g
      have bit : ∀ {v : Option Value} {hend : XH}, XGo (d + 3) xm_X0_learn (if lvB set k then 35 else 73, leL b set y (some (.int (nI k))), [], h) v hend → XGo (d + 3) xm_X0_learn (25, leL b set y (some (.int (nI k))), [], h) v hend := fun g => XGo.go 7 rfl g
      have a19 := k_at (d + 2) h 19 6 ye (nI k) r19 (by omega) (by decide)
      rw [if_neg (ca_nI (by omega) (by decide)), xnI_nat (by omega)] at a19
      have a17 := k_at (d + 2) h 17 6 ki (nI k) r17 (by omega) (by decide)
      rw [if_neg (ca_nI (by omega) (by decide)), xnI_nat (by omega)] at a17
      have a18 := k_at (d + 2) h 18 6 wh (nI k) r18 (by omega) (by decide)
      rw [if_neg (ca_nI (by omega) (by decide)), xnI_nat (by omega)] at a18
      have yr : ∀ {v : Option Value} {hend : XH}, XGo (d + 3) xm_X0_learn (if ye k = nI y then 48 else 73, leL b set y (some (.int (nI k))), [], h) v hend → XGo (d + 3) xm_X0_learn (35, leL b set y (some (.int (nI k))), [], h) v hend := fun g => by
        refine XGo.go 1 rfl ?_
        refine XGo.getf rfl (xfd_o h14 l14 (by decide) w6) ?_
        refine XGo.go 1 rfl ?_
        refine XGo.call _ rfl xm_X6_at rfl rfl [.ref 19, .int (nI k)] [] rfl rfl (fun z => absurd rfl z) (Nat.le_of_ble_eq_true rfl) a19 ?_
        exact XGo.go 2 rfl g
      by_cases cb : lvB set k
      · by_cases cy : ye k = nI y
        · obtain ⟨h2, c1, o1, r1⟩ := k_come d hr (by omega) (by omega) (kind := ki k) (w := wh k) (y := nI y) (m := k) (by omega) (hwh k hkm)
          have e : coM ki wh ye set y (k + 1) x0 = coC (ki k) (wh k) (nI y) k (coM ki wh ye set y k x0) := if_pos ⟨cb, cy⟩
          refine XGe.map (fun v hend g => head (XGo.ifn cm (bit (XGo.ifp cb (yr (XGo.ifp cy ?_)))))) (learn_m h20 hb hm hwh set y fin q (k + 1) h2 (by omega) (ho.trans o1) (hw.cr h20 o1) (by rw [e]; exact r1))
          refine XGo.go 2 rfl ?_
          refine XGo.getf rfl (xfd_o h14 l14 (by decide) w4) ?_
          refine XGo.go 1 rfl ?_
          refine XGo.call _ rfl xm_X6_at rfl rfl [.ref 17, .int (nI k)] [.ref b] rfl rfl (fun z => absurd rfl z) (Nat.le_of_ble_eq_true rfl) a17 ?_
          refine XGo.go 1 rfl ?_
          refine XGo.getf rfl (xfd_o h14 l14 (by decide) w5) ?_
          refine XGo.go 1 rfl ?_
          refine XGo.call _ rfl xm_X6_at rfl rfl [.ref 18, .int (nI k)] [.int (ki k), .ref b] rfl rfl (fun z => absurd rfl z) (Nat.le_of_ble_eq_true rfl) a18 ?_
          refine XGo.go 2 rfl ?_
          refine XGo.call _ rfl xm_X0_come rfl rfl [.ref b, .int (ki k), .int (wh k), .int (nI k), .int (nI y)] [] rfl rfl (fun _ => ⟨b, _, rfl, hr.1, by omega, by omega⟩) (Nat.le_of_ble_eq_true rfl) c1 ?_
          exact next g
        · have e : coM ki wh ye set y (k + 1) x0 = coM ki wh ye set y k x0 := if_neg (fun q => cy q.2)
          exact XGe.map (fun v hend g => head (XGo.ifn cm (bit (XGo.ifp cb (yr (XGo.ifn cy (next g))))))) (learn_m h20 hb hm hwh set y fin q (k + 1) h (by omega) ho hw (by rw [e]; exact hr))
      · have e : coM ki wh ye set y (k + 1) x0 = coM ki wh ye set y k x0 := if_neg (fun q => cb q.1)
        exact XGe.map (fun v hend g => head (XGo.ifn cm (bit (XGo.ifn cb (next g))))) (learn_m h20 hb hm hwh set y fin q (k + 1) h (by omega) ho hw (by rw [e]; exact hr))
  termination_by q => q
