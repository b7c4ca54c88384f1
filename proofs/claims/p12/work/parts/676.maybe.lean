/-! maybe: refused, or at the writing -/
/-- why who may not stand with this kind -/
abbrev wBad (n m : Nat) (f : Nat → Int32) (a w : Int32) : Prop := (a = Int32.ofInt 3 ∧ (w < 0 ∨ ¬ w < Int32.ofInt 4)) ∨ (¬ a = Int32.ofInt 3 ∧ ¬ (0 ≤ w ∧ w < nI n) ∧ ¬ isCh m f w)
/-- why a maybe is refused; 0: it isn't -/
def mcode (n m : Nat) (f : Nat → Int32) (a w y : Int32) : Int32 := if a < 0 ∨ ¬ a ≤ Int32.ofInt 3 then Int32.ofInt (-1) else if wBad n m f a w then Int32.ofInt (-1) else if y < Int32.ofInt 1 ∨ ¬ y ≤ (Int8.ofInt 40).toInt32 then (Int8.ofInt (-2)).toInt32 else if 6 ≤ m then (Int8.ofInt (-4)).toInt32 else 0
theorem mcode_1 {n m : Nat} {f : Nat → Int32} {a w y : Int32} (h : a < 0 ∨ ¬ a ≤ Int32.ofInt 3) : mcode n m f a w y = Int32.ofInt (-1) := if_pos h
theorem mcode_2 {n m : Nat} {f : Nat → Int32} {a w y : Int32} (h : ¬ (a < 0 ∨ ¬ a ≤ Int32.ofInt 3)) (h2 : wBad n m f a w) : mcode n m f a w y = Int32.ofInt (-1) := by
  unfold mcode
  rw [if_neg h, if_pos h2]
theorem mcode_3 {n m : Nat} {f : Nat → Int32} {a w y : Int32} (h : ¬ (a < 0 ∨ ¬ a ≤ Int32.ofInt 3)) (h2 : ¬ wBad n m f a w) (h3 : y < Int32.ofInt 1 ∨ ¬ y ≤ (Int8.ofInt 40).toInt32) : mcode n m f a w y = (Int8.ofInt (-2)).toInt32 := by
  unfold mcode
  rw [if_neg h, if_neg h2, if_pos h3]
theorem mcode_4 {n m : Nat} {f : Nat → Int32} {a w y : Int32} (h : ¬ (a < 0 ∨ ¬ a ≤ Int32.ofInt 3)) (h2 : ¬ wBad n m f a w) (h3 : ¬ (y < Int32.ofInt 1 ∨ ¬ y ≤ (Int8.ofInt 40).toInt32)) (h4 : 6 ≤ m) : mcode n m f a w y = (Int8.ofInt (-4)).toInt32 := by
  unfold mcode
  rw [if_neg h, if_neg h2, if_neg h3, if_pos h4]
theorem mcode_0 {n m : Nat} {f : Nat → Int32} {a w y : Int32} (h : ¬ (a < 0 ∨ ¬ a ≤ Int32.ofInt 3)) (h2 : ¬ wBad n m f a w) (h3 : ¬ (y < Int32.ofInt 1 ∨ ¬ y ≤ (Int8.ofInt 40).toInt32)) (h4 : ¬ 6 ≤ m) : mcode n m f a w y = 0 := by
  unfold mcode
  rw [if_neg h, if_neg h2, if_neg h3, if_neg h4]
theorem mcode_ok {n m : Nat} {f : Nat → Int32} {a w y : Int32} (h : mcode n m f a w y = 0) : ¬ (a < 0 ∨ ¬ a ≤ Int32.ofInt 3) ∧ ¬ wBad n m f a w ∧ m < 6 := by
  unfold mcode at h
  split at h
  · exact absurd h (by decide)
  · split at h
    · exact absurd h (by decide)
    · split at h
      · exact absurd h (by decide)
      · split at h
        · exact absurd h (by decide)
        · exact ⟨by assumption, by assumption, by omega⟩
theorem nI_ge6 {m : Nat} (hm : m ≤ 6) : (Int8.ofInt 6).toInt32 ≤ nI m ↔ 6 ≤ m := xnI_ge (m := 6) (by decide) (by omega)
set_option maxRecDepth 100000 in
theorem cmaybe {h : XH} {fs fw : List Value} {n m : Nat} {f : Nat → Int32} (hN : h.1 = 549) (h13 : h.2.2 13 = .inl (6, fs)) (hs0 : fs[0]? = some (.ref 14)) (h14 : h.2.2 14 = .inl (5, fw)) (hw0 : fw[0]? = some (.int (nI n))) (hw3 : fw[3]? = some (.int (nI m))) (hw4 : fw[4]? = some (.ref 17)) (h17 : h.2.2 17 = .inr (.inl (0, 6, f))) (hm : m ≤ 6) (a w y : Int32) {v : Option Value} {hend : XH}
    (hfail : ∀ x, ¬ x = 0 → mcode n m f a w y = x → v = some (.int x) ∧ hend = h) (hgood : mcode n m f a w y = 0 → XGo 8 xm_X6_maybe (81, [some (.ref 13), some (.int a), some (.int w), some (.int y)], [], h) v hend) : XGo 8 xm_X6_maybe (0, [some (.ref 13), some (.int a), some (.int w), some (.int y)], [], h) v hend := by
  have l13 : 13 < h.1 := by omega
  have l14 : 14 < h.1 := by omega
  have l17 : 17 < h.1 := by omega
  have g13 : ∀ {pc len w2 idx : Nat} {L : XL} {st : List Value}, xfind (xmT xm_X6_maybe) pc = some (pc, .getfield idx, len, 6, 0, w2) → XGo 8 xm_X6_maybe (pc + 3, L, .ref 14 :: st, h) v hend → XGo 8 xm_X6_maybe (pc, L, .ref 13 :: st, h) v hend := fun hx k => XGo.getf hx (xfd_o h13 l13 (by decide) hs0) k
  have s52 : ¬ (a < 0 ∨ ¬ a ≤ Int32.ofInt 3) → ¬ wBad n m f a w → XGo 8 xm_X6_maybe (52, [some (.ref 13), some (.int a), some (.int w), some (.int y)], [], h) v hend := fun q1 q2 => by
    refine XGo.go 3 rfl ?_
    by_cases h1 : y < Int32.ofInt 1
    · refine XGo.ifp h1 ?_
      obtain ⟨rfl, rfl⟩ := hfail _ (by decide) (mcode_3 q1 q2 (Or.inl h1))
      refine XGo.go 1 rfl ?_
      exact XGo.iret _ rfl rfl .int rfl rfl
    · refine XGo.ifn h1 ?_
      refine XGo.go 3 rfl ?_
      by_cases h2 : y ≤ (Int8.ofInt 40).toInt32
      · refine XGo.ifp h2 ?_
        have q3 : ¬ (y < Int32.ofInt 1 ∨ ¬ y ≤ (Int8.ofInt 40).toInt32) := fun q => q.elim h1 (fun q => q h2)
        refine XGo.go 1 rfl ?_
        refine g13 rfl ?_
        refine XGo.getf rfl (xfd_o h14 l14 (by decide) hw3) ?_
        refine XGo.go 2 rfl ?_
        by_cases q4 : 6 ≤ m
        · refine XGo.ifn (fun z => Int32.not_le.mpr z ((nI_ge6 hm).mpr q4)) ?_
          obtain ⟨rfl, rfl⟩ := hfail _ (by decide) (mcode_4 q1 q2 q3 q4)
          refine XGo.go 1 rfl ?_
          exact XGo.iret _ rfl rfl .int rfl rfl
        · refine XGo.ifp (Int32.not_le.mp fun z => q4 ((nI_ge6 hm).mp z)) ?_
          exact hgood (mcode_0 q1 q2 q3 q4)
      · refine XGo.ifn h2 ?_
        obtain ⟨rfl, rfl⟩ := hfail _ (by decide) (mcode_3 q1 q2 (Or.inr h2))
        refine XGo.go 1 rfl ?_
        exact XGo.iret _ rfl rfl .int rfl rfl
  have s50 : ¬ (a < 0 ∨ ¬ a ≤ Int32.ofInt 3) → wBad n m f a w → XGo 8 xm_X6_maybe (50, [some (.ref 13), some (.int a), some (.int w), some (.int y)], [], h) v hend := fun q1 q2 => by
    obtain ⟨rfl, rfl⟩ := hfail _ (by decide) (mcode_2 q1 q2)
    refine XGo.go 1 rfl ?_
    exact XGo.iret _ rfl rfl .int rfl rfl
  have s11 : ¬ (a < 0 ∨ ¬ a ≤ Int32.ofInt 3) → XGo 8 xm_X6_maybe (11, [some (.ref 13), some (.int a), some (.int w), some (.int y)], [], h) v hend := fun q1 => by
    refine XGo.go 3 rfl ?_
    by_cases ha : a = Int32.ofInt 3
    · refine XGo.ifp ha ?_
      refine XGo.go 2 rfl ?_
      by_cases h1 : w < 0
      · refine XGo.ifp h1 ?_
        exact s50 q1 (Or.inl ⟨ha, Or.inl h1⟩)
      · refine XGo.ifn h1 ?_
        refine XGo.go 3 rfl ?_
        by_cases h2 : w < Int32.ofInt 4
        · refine XGo.ifp h2 ?_
          exact s52 q1 (fun q => q.elim (fun q => q.2.elim h1 (fun q => q h2)) (fun q => q.1 ha))
        · refine XGo.ifn h2 ?_
          refine XGo.go 1 rfl ?_
          exact s50 q1 (Or.inl ⟨ha, Or.inr h2⟩)
    · refine XGo.ifn ha ?_
      refine XGo.go 1 rfl ?_
      refine g13 rfl ?_
      refine XGo.go 1 rfl ?_
      refine XGo.call _ rfl xm_X5_isPerson rfl rfl [.ref 14, .int w] [] rfl rfl (fun _ => ⟨14, fw, rfl, h14, by decide, l14⟩) (Nat.le_of_ble_eq_true rfl) (k_isPerson 7 h14 hw0 l14 (by decide) w) ?_
      by_cases hq : 0 ≤ w ∧ w < nI n
      · rw [if_pos hq]
        refine XGo.go 1 rfl ?_
        refine XGo.ifn (by decide) ?_
        exact s52 q1 (fun q => q.elim (fun q => ha q.1) (fun q => q.2.1 hq))
      · rw [if_neg hq]
        refine XGo.go 1 rfl ?_
        refine XGo.ifp rfl ?_
        refine XGo.go 1 rfl ?_
        refine g13 rfl ?_
        refine XGo.go 1 rfl ?_
        refine XGo.call _ rfl xm_X5_isChild rfl rfl [.ref 14, .int w] [] rfl rfl (fun _ => ⟨14, fw, rfl, h14, by decide, l14⟩) (Nat.le_of_ble_eq_true rfl) (k_isChild 6 h14 hw3 hw4 h17 l14 (by decide) l17 hm w) ?_
        by_cases hc : isCh m f w
        · rw [if_pos hc]
          refine XGo.go 1 rfl ?_
          refine XGo.ifn (by decide) ?_
          exact s52 q1 (fun q => q.elim (fun q => ha q.1) (fun q => q.2.2 hc))
        · rw [if_neg hc]
          refine XGo.go 1 rfl ?_
          refine XGo.ifp rfl ?_
          exact s50 q1 (Or.inr ⟨ha, hq, hc⟩)
  refine XGo.go 2 rfl ?_
  by_cases h1 : a < 0
  · refine XGo.ifp h1 ?_
    obtain ⟨rfl, rfl⟩ := hfail _ (by decide) (mcode_1 (Or.inl h1))
    refine XGo.go 1 rfl ?_
    exact XGo.iret _ rfl rfl .int rfl rfl
  · refine XGo.ifn h1 ?_
    refine XGo.go 3 rfl ?_
    by_cases h2 : a ≤ Int32.ofInt 3
    · refine XGo.ifp h2 ?_
      exact s11 (fun q => q.elim h1 (fun q => q h2))
    · refine XGo.ifn h2 ?_
      obtain ⟨rfl, rfl⟩ := hfail _ (by decide) (mcode_1 (Or.inr h2))
      refine XGo.go 1 rfl ?_
      exact XGo.iret _ rfl rfl .int rfl rfl
theorem xin_le (v lo hi : Int32) : xin v lo hi = if v < lo ∨ ¬ v ≤ hi then 0 else 1 := by
  rw [xin_is]
  by_cases h : v < lo ∨ hi < v
  · rw [if_pos h, if_pos (h.imp id fun q => Int32.not_le.mpr q)]
  · rw [if_neg h, if_neg fun q => h (q.imp id fun q => Int32.not_le.mp q)]
theorem w_34 (w : Int32) : w ≤ Int32.ofInt 3 ↔ w < Int32.ofInt 4 := by
  rw [Int32.le_iff_toInt_le, Int32.lt_iff_toInt_lt, show (Int32.ofInt 3).toInt = 3 by decide, show (Int32.ofInt 4).toInt = 4 by decide]
  omega
set_option maxRecDepth 100000 in
theorem mmaybe {h : XH} {fs : List Value} {n m : Nat} {f : Nat → Int32} (hN : h.1 = 549) (h1 : h.2.2 536 = .inl (7, fs)) (hs : fs[1]? = some (.ref 537)) (h2 : h.2.2 537 = .inr (.inl (0, 490, f))) (h0 : f 0 = nI n) (hn : n ≤ 8) (hf1 : f 1 = nI m) (hm : m ≤ 6) (a w y : Int32) {v : Option Value} {hend : XH}
    (hfail : ∀ x, ¬ x = 0 → mcode n m (fun i => f (110 + i)) a w y = x → v = some (.int x) ∧ hend = h) (hgood : mcode n m (fun i => f (110 + i)) a w y = 0 → XGo 8 xm_X7_maybe (63, [some (.ref 536), some (.int a), some (.int w), some (.int y), none], [], h) v hend) : XGo 8 xm_X7_maybe (0, [some (.ref 536), some (.int a), some (.int w), some (.int y), none], [], h) v hend := by
  have l1 : 536 < h.1 := by omega
  have l2 : 537 < h.1 := by omega
  have g1 : ∀ {pc len w2 idx : Nat} {L : XL} {st : List Value}, xfind (xmT xm_X7_maybe) pc = some (pc, .getfield idx, len, 7, 1, w2) → XGo 8 xm_X7_maybe (pc + 3, L, .ref 537 :: st, h) v hend → XGo 8 xm_X7_maybe (pc, L, .ref 536 :: st, h) v hend := fun hx k => XGo.getf hx (xfd_o h1 l1 (by decide) hs) k
  have s1 : xia h 0 537 (Int32.ofInt 1) = some (nI m) := by
    rw [← hf1]
    exact xia_i h2 l2 (by decide)
  have s36 : ¬ (a < 0 ∨ ¬ a ≤ Int32.ofInt 3) → ¬ wBad n m (fun i => f (110 + i)) a w → XGo 8 xm_X7_maybe (36, [some (.ref 536), some (.int a), some (.int w), some (.int y), none], [], h) v hend := fun q1 q2 => by
    refine XGo.go 3 rfl ?_
    refine XGo.call _ rfl xm_X7_in rfl rfl [.int y, .int (Int32.ofInt 1), .int (Int8.ofInt 40).toInt32] [] rfl rfl (fun z => absurd rfl z) (Nat.le_of_ble_eq_true rfl) (k_in 7 h _ _ _) ?_
    rw [xin_le]
    by_cases q3 : y < Int32.ofInt 1 ∨ ¬ y ≤ (Int8.ofInt 40).toInt32
    · rw [if_pos q3]
      obtain ⟨rfl, rfl⟩ := hfail _ (by decide) (mcode_3 q1 q2 q3)
      refine XGo.go 1 rfl ?_
      refine XGo.ifp rfl ?_
      refine XGo.go 1 rfl ?_
      exact XGo.iret _ rfl rfl .int rfl rfl
    · rw [if_neg q3]
      refine XGo.go 1 rfl ?_
      refine XGo.ifn (by decide) ?_
      refine XGo.go 1 rfl ?_
      refine g1 rfl ?_
      refine XGo.go 1 rfl ?_
      refine XGo.iald rfl s1 ?_
      refine XGo.go 2 rfl ?_
      by_cases q4 : nI m = (Int8.ofInt 6).toInt32
      · refine XGo.ifp q4 ?_
        have q5 : 6 ≤ m := (nI_ge6 hm).mp (by rw [q4]; exact Int32.le_refl _)
        obtain ⟨rfl, rfl⟩ := hfail _ (by decide) (mcode_4 q1 q2 q3 q5)
        refine XGo.go 1 rfl ?_
        exact XGo.iret _ rfl rfl .int rfl rfl
      · refine XGo.ifn q4 ?_
        have q5 : ¬ 6 ≤ m := fun z => q4 (by
          have e : m = 6 := by omega
          subst e
          rfl)
        exact hgood (mcode_0 q1 q2 q3 q5)
  have s34 : ∀ x : Int32, ¬ x = 0 → mcode n m (fun i => f (110 + i)) a w y = x → x = Int32.ofInt (-1) → XGo 8 xm_X7_maybe (34, [some (.ref 536), some (.int a), some (.int w), some (.int y), none], [], h) v hend := fun x hx e e1 => by
    obtain ⟨rfl, rfl⟩ := hfail _ hx e
    subst e1
    refine XGo.go 1 rfl ?_
    exact XGo.iret _ rfl rfl .int rfl rfl
  refine XGo.go 3 rfl ?_
  refine XGo.call _ rfl xm_X7_in rfl rfl [.int a, .int (Int32.ofInt 0), .int (Int32.ofInt 3)] [] rfl rfl (fun z => absurd rfl z) (Nat.le_of_ble_eq_true rfl) (k_in 7 h _ _ _) ?_
  rw [xin_le]
  by_cases q1 : a < Int32.ofInt 0 ∨ ¬ a ≤ Int32.ofInt 3
  · rw [if_pos q1]
    refine XGo.go 1 rfl ?_
    refine XGo.ifp rfl ?_
    exact s34 _ (by decide) (mcode_1 q1) rfl
  · rw [if_neg q1]
    refine XGo.go 1 rfl ?_
    refine XGo.ifn (by decide) ?_
    refine XGo.go 3 rfl ?_
    by_cases ha : a = Int32.ofInt 3
    · refine XGo.ifp ha ?_
      refine XGo.go 3 rfl ?_
      refine XGo.call _ rfl xm_X7_in rfl rfl [.int w, .int (Int32.ofInt 0), .int (Int32.ofInt 3)] [] rfl rfl (fun z => absurd rfl z) (Nat.le_of_ble_eq_true rfl) (k_in 7 h _ _ _) ?_
      rw [xin_le]
      by_cases h3 : w < Int32.ofInt 0 ∨ ¬ w ≤ Int32.ofInt 3
      · rw [if_pos h3]
        refine XGo.go 1 rfl ?_
        refine XGo.ifp rfl ?_
        refine XGo.go 1 rfl ?_
        exact s34 _ (by decide) (mcode_2 q1 (Or.inl ⟨ha, h3.imp id fun q z => q ((w_34 w).mpr z)⟩)) rfl
      · rw [if_neg h3]
        refine XGo.go 1 rfl ?_
        refine XGo.ifn (by decide) ?_
        exact s36 q1 (fun q => q.elim (fun q => h3 (q.2.imp id fun q z => q ((w_34 w).mp z))) (fun q => q.1 ha))
    · refine XGo.ifn ha ?_
      refine XGo.go 2 rfl ?_
      refine XGo.call _ rfl xm_X7_isThere rfl rfl [.ref 536, .int w] [] rfl rfl (fun _ => ⟨536, fs, rfl, h1, by decide, l1⟩) (Nat.le_of_ble_eq_true rfl) (k_isThere 6 hN h1 hs h2 h0 hn hf1 hm w) ?_
      by_cases hq : (0 ≤ w ∧ w < nI n) ∨ isCh m (fun i => f (110 + i)) w
      · rw [if_pos hq]
        refine XGo.go 1 rfl ?_
        refine XGo.ifn (by decide) ?_
        exact s36 q1 (fun q => q.elim (fun q => ha q.1) (fun q => hq.elim q.2.1 q.2.2))
      · rw [if_neg hq]
        refine XGo.go 1 rfl ?_
        refine XGo.ifp rfl ?_
        exact s34 _ (by decide) (mcode_2 q1 (Or.inr ⟨ha, fun z => hq (Or.inl z), fun z => hq (Or.inr z)⟩)) rfl
