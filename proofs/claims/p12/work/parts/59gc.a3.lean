/-! lives: a3 -/
set_option maxRecDepth 100000 in
/-- the row of deeds, as at first -/
theorem lives_2 {d : Nat} {fs : List Value} {f : Nat → Int32} (set : Int32) (l3 : Option Value) {h0 : XH} {s0 : LV} {Q : Option Value → XH → Prop} (fin : ∀ (h1 : XH) (s1 : LV), LVo h0 h1 → LVk h1 fs f → LVr h1 s1 → (s1.1 = s0.1 ∧ s1.2.1 = s0.2.1 ∧ s1.2.2.1 = s0.2.2.1) → (∀ j, j < 4 → s1.2.2.2 j = i99) → XGe d xm_X7_lives (73, liL set 4 l3, [], h1) Q) : ∀ (q i : Nat) (h : XH) (s : LV), i + q = 4 → LVo h0 h → LVk h fs f → LVr h s → (s.1 = s0.1 ∧ s.2.1 = s0.2.1 ∧ s.2.2.1 = s0.2.2.1) → (∀ j, j < i → s.2.2.2 j = i99) → XGe d xm_X7_lives (54, liL set i l3, [], h) Q
  | 0, i, h, s, hi, ho, hk, hs, he, hj => by
    have hi : i = 4 := by omega
    subst hi
    refine XGe.map (fun v hend k => ?_) (fin h s ho hk hs he hj)
    refine XGo.go 3 rfl ?_
    exact XGo.ifp (show Int32.ofInt 4 ≤ nI 4 by decide) k
  | q + 1, i, h, s, hi, ho, hk, hs, he, hj => by
    obtain ⟨hN, h1, h2, f1, f4, f5, f6, f7⟩ := id hk
    obtain ⟨s1, s2, s3, s4⟩ := id hs
    have l1 : 536 < h.1 := by omega
    have hi4 : i < 4 := by omega
    have hsA : LVr (xup h 542 (.inr (.inl (0, 4, upd s.2.2.2 i i99)))) (s.1, s.2.1, s.2.2.1, upd s.2.2.2 i i99) := ⟨(xup_ne _ _ (by decide)).trans s1, (xup_ne _ _ (by decide)).trans s2, (xup_ne _ _ (by decide)).trans s3, xup_eq _ _ _⟩
    refine XGe.map (fun v hend k => ?_) (lives_2 set l3 fin q (i + 1) (xup h 542 (.inr (.inl (0, 4, upd s.2.2.2 i i99)))) _ (by omega) (ho.trans (LVo.up (by decide) (by decide) _)) (hk.up (by decide) _) hsA he (fun j hj2 => ?_))
    rotate_left
    · by_cases e : j = i
      · subst e
        exact upd_at
      · exact (upd_ne e).trans (hj j (by omega))
    · have c4 : ¬ Int32.ofInt 4 ≤ nI i := fun z => absurd ((xnI_ge (m := 4) (by decide) (by omega)).mp z) (by omega)
      refine XGo.go 3 rfl ?_
      refine XGo.ifn c4 ?_
      refine XGo.go 1 rfl ?_
      refine XGo.getf rfl (xfd_o h1 l1 (by decide) f7) ?_
      refine XGo.go 2 rfl ?_
      refine XGo.iast rfl s4 (by omega) (by decide) (ca_nI hi4 (by decide)) ?_
      rw [xnI_nat (by omega)]
      refine XGo.go 2 rfl ?_
      show XGo _ _ (54, [some (.ref 536), some (.int set), some (.int (nI i + Int32.ofInt 1)), l3], [], xup h 542 (.inr (.inl (0, 4, upd s.2.2.2 i i99)))) _ _
      rw [show nI i + Int32.ofInt 1 = nI (i + 1) from nI_1 i]
      exact k
set_option maxRecDepth 100000 in
/-- one year: the maybes of it come -/
theorem lives_m {d : Nat} {fs : List Value} {f : Nat → Int32} {m : Nat} (hf1 : f 1 = nI m) (hm : m ≤ 6) (hf : mbOK f m) (set : Int32) (y : Nat) {h0 : XH} {s0 : LV} {Q : Option Value → XH → Prop} (fin : ∀ (h1 : XH) (l3 : Option Value), LVo h0 h1 → LVk h1 fs f → LVr h1 (lvM f set y m s0) → XGe (d + 1) xm_X7_lives (126, liL set y l3, [], h1) Q) : ∀ (q i : Nat) (h : XH), i + q = m → LVo h0 h → LVk h fs f → LVr h (lvM f set y i s0) → XGe (d + 1) xm_X7_lives (83, liL set y (some (.int (nI i))), [], h) Q
  | q, i, h, hi, ho, hk, hs => by
    obtain ⟨hN, h1, h2, f1, f4, f5, f6, f7⟩ := id hk
    have l1 : 536 < h.1 := by omega
    have g1 : xia h 0 537 (Int32.ofInt 1) = some (nI m) := by rw [← hf1]; exact ia_nI (k := 1) h2 (by omega) (by decide) (by decide)
    have head : ∀ {v : Option Value} {hend : XH}, XGo (d + 1) xm_X7_lives (if nI m ≤ nI i then 126 else 93, liL set y (some (.int (nI i))), [], h) v hend → XGo (d + 1) xm_X7_lives (83, liL set y (some (.int (nI i))), [], h) v hend := fun k => by
      refine XGo.go 2 rfl ?_
      refine XGo.getf rfl (xfd_o h1 l1 (by decide) f1) ?_
      refine XGo.go 1 rfl ?_
      refine XGo.iald rfl g1 ?_
      exact XGo.go 1 rfl k
    match q, hi with
    | 0, hi =>
      have hi : i = m := by omega
      subst hi
      exact XGe.map (fun v hend k => head (XGo.ifp (Int32.le_refl _) k)) (fin h _ ho hk hs)
    | q + 1, hi =>
      have him : i < m := by omega
      have cm : ¬ nI m ≤ nI i := fun z => absurd ((xnI_ge (by omega) (by omega)).mp z) (by omega)
      have next : ∀ {v : Option Value} {hend h1 : XH}, XGo (d + 1) xm_X7_lives (83, liL set y (some (.int (nI (i + 1)))), [], h1) v hend → XGo (d + 1) xm_X7_lives (120, liL set y (some (.int (nI i))), [], h1) v hend := fun k => by
        refine XGo.go 2 rfl ?_
        show XGo _ _ (83, [some (.ref 536), some (.int set), some (.int (nI y)), some (.int (nI i + Int32.ofInt 1))], [], _) _ _
        rw [show nI i + Int32.ofInt 1 = nI (i + 1) from nI_1 i]
        exact k
      have bit : ∀ {v : Option Value} {hend : XH}, XGo (d + 1) xm_X7_lives (if lvB set i then 102 else 120, liL set y (some (.int (nI i))), [], h) v hend → XGo (d + 1) xm_X7_lives (93, liL set y (some (.int (nI i))), [], h) v hend := fun k => by
        exact XGo.go 7 rfl k
      have yr : ∀ {v : Option Value} {hend : XH}, XGo (d + 1) xm_X7_lives (if f (122 + i) = nI y then 115 else 120, liL set y (some (.int (nI i))), [], h) v hend → XGo (d + 1) xm_X7_lives (102, liL set y (some (.int (nI i))), [], h) v hend := fun k => by
        refine XGo.go 1 rfl ?_
        refine XGo.getf rfl (xfd_o h1 l1 (by decide) f1) ?_
        refine XGo.go 3 rfl ?_
        show XGo _ _ (110, _, [.int ((Int8.ofInt 122).toInt32 + nI i), .ref 537], _) _ _
        rw [show (Int8.ofInt 122).toInt32 + nI i = nI (122 + i) from nI_add 122 i]
        refine XGo.iald rfl (ia_nI h2 (by omega) (by omega) (by decide)) ?_
        exact XGo.go 2 rfl k
      by_cases cb : lvB set i
      · by_cases cy : f (122 + i) = nI y
        · obtain ⟨h2', c1, o1, r1⟩ := k_comes d hk hs (m := i) (by omega) (hf i him).1 (hf i him).2
          have e : lvM f set y (i + 1) s0 = lvC f i (lvM f set y i s0) := if_pos ⟨cb, cy⟩
          refine XGe.map (fun v hend k => head (XGo.ifn cm (bit (XGo.ifp cb (yr (XGo.ifp cy ?_)))))) (lives_m hf1 hm hf set y fin q (i + 1) h2' (by omega) (ho.trans o1) (o1.keep hk) (by rw [e]; exact r1))
          refine XGo.go 2 rfl ?_
          refine XGo.call _ rfl xm_X7_comes rfl rfl [.ref 536, .int (nI i)] [] rfl rfl (fun _ => ⟨536, fs, rfl, h1, by decide, l1⟩) (Nat.le_of_ble_eq_true rfl) c1 ?_
          exact next k
        · have e : lvM f set y (i + 1) s0 = lvM f set y i s0 := if_neg (fun q => cy q.2)
          exact XGe.map (fun v hend k => head (XGo.ifn cm (bit (XGo.ifp cb (yr (XGo.ifn cy (next k))))))) (lives_m hf1 hm hf set y fin q (i + 1) h (by omega) ho hk (by rw [e]; exact hs))
      · have e : lvM f set y (i + 1) s0 = lvM f set y i s0 := if_neg (fun q => cb q.1)
        exact XGe.map (fun v hend k => head (XGo.ifn cm (bit (XGo.ifn cb (next k))))) (lives_m hf1 hm hf set y fin q (i + 1) h (by omega) ho hk (by rw [e]; exact hs))
  termination_by q => q
set_option maxRecDepth 100000 in
/-- all years -/
theorem lives_y {d : Nat} {fs : List Value} {f : Nat → Int32} {m : Nat} (hf1 : f 1 = nI m) (hm : m ≤ 6) (hf : mbOK f m) (set : Int32) {h0 : XH} {s0 : LV} {Q : Option Value → XH → Prop} (fin : ∀ (h1 : XH) (l3 : Option Value), LVo h0 h1 → LVk h1 fs f → LVr h1 (lvY f set m 40 s0) → XGe (d + 1) xm_X7_lives (132, liL set 41 l3, [], h1) Q) : ∀ (q y : Nat) (h : XH) (l3 : Option Value), y + q = 40 → LVo h0 h → LVk h fs f → LVr h (lvY f set m y s0) → XGe (d + 1) xm_X7_lives (75, liL set (y + 1) l3, [], h) Q
  | 0, y, h, l3, hy, ho, hk, hs => by
    have hy : y = 40 := by omega
    subst hy
    refine XGe.map (fun v hend k => ?_) (fin h l3 ho hk hs)
    refine XGo.go 3 rfl ?_
    exact XGo.ifp (show (Int8.ofInt 40).toInt32 < nI 41 by decide) k
  | q + 1, y, h, l3, hy, ho, hk, hs => by
    refine XGe.map (fun v hend k => ?_) (lives_m (h0 := h0) (s0 := lvY f set m y s0) hf1 hm hf set (y + 1) (fun h1 l3 ho hk hs => XGe.map (fun v hend k => ?_) (lives_y hf1 hm hf set fin q (y + 1) h1 l3 (by omega) ho hk hs)) m 0 h (by omega) ho hk hs)
    · have c : ¬ (Int8.ofInt 40).toInt32 < nI (y + 1) := fun z => by
        have e := Int32.lt_iff_toInt_lt.mp z
        rw [nI_toInt (by omega), show (Int8.ofInt 40).toInt32.toInt = 40 by decide] at e
        omega
      refine XGo.go 3 rfl ?_
      refine XGo.ifn c ?_
      exact XGo.go 2 rfl k
    · refine XGo.go 2 rfl ?_
      show XGo _ _ (75, [some (.ref 536), some (.int set), some (.int (nI (y + 1) + Int32.ofInt 1)), _], [], _) _ _
      rw [show nI (y + 1) + Int32.ofInt 1 = nI (y + 1 + 1) from nI_1 (y + 1)]
      exact k
set_option maxRecDepth 100000 in
/-- the model counts lives -/
theorem k_lives (d : Nat) {h : XH} {fs : List Value} {f : Nat → Int32} {s : LV} (hk : LVk h fs f) (hs : LVr h s) {n m : Nat} (hf0 : f 0 = nI n) (hn : n ≤ 8) (hf1 : f 1 = nI m) (hm : m ≤ 6) (hf : mbOK f m) (set : Int32) : ∃ (h1 : XH) (s1 : LV), XCall xM (d + 2) 116 [.ref 536, .int set] h none h1 ∧ LVo h h1 ∧ LVr h1 s1 ∧ LVe s1 (lvOf f n m set) := by
  have key : XGe (d + 1) xm_X7_lives (2, liL set 0 none, [], h) (fun v h1 => v = none ∧ LVo h h1 ∧ ∃ s1, LVr h1 s1 ∧ LVe s1 (lvOf f n m set)) := by
    refine lives_1 hf0 hn set none (h0 := h) (fun h1 s1 o1 k1 r1 e1 => ?_) 14 0 h s (by decide) (LVo.refl h) hk hs (fun j hj => absurd hj (by omega))
    refine XGe.map (fun v hend k => XGo.go 2 rfl k) ?_
    show XGe (d + 1) xm_X7_lives (54, liL set 0 none, [], h1) _
    refine lives_2 set none (h0 := h) (s0 := s1) (fun h2 s2 o2 k2 r2 e2 j2 => ?_) 4 0 h1 s1 (by decide) o1 k1 r1 ⟨rfl, rfl, rfl⟩ (fun j hj => absurd hj (by omega))
    refine XGe.map (fun v hend k => XGo.go 2 rfl k) ?_
    show XGe (d + 1) xm_X7_lives (75, liL set 1 none, [], h2) _
    refine lives_y hf1 hm hf set (h0 := h) (s0 := s2) (fun h3 l3 o3 k3 r3 => ?_) 40 0 h2 none (by decide) o2 k2 r2
    refine ⟨none, h3, ⟨rfl, o3, _, r3, ?_⟩, XGo.vret _ rfl rfl rfl⟩
    refine lvY_eqv hf 40 ⟨fun j hj => ?_, fun j hj => ?_, fun j hj => ?_, fun j hj => j2 j hj⟩
    · rw [e2.1]; exact (e1 j hj).1
    · rw [e2.2.1]; exact (e1 j hj).2.1
    · rw [e2.2.2]; exact (e1 j hj).2.2
  obtain ⟨v, h1, ⟨rfl, o1, s1, r1, e1⟩, g⟩ := key
  refine ⟨h1, s1, XCall.of (M := xm_X7_lives) rfl (Nat.le_of_ble_eq_true rfl) (XGo.go 2 rfl ?_), o1, r1, e1⟩
  exact g
