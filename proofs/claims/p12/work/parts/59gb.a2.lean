/-! lives: a2 -/
/-- alike in the cells that there are -/
def LVe (s t : LV) : Prop := (∀ j, j < 14 → s.1 j = t.1 j) ∧ (∀ j, j < 14 → s.2.1 j = t.2.1 j) ∧ (∀ j, j < 14 → s.2.2.1 j = t.2.2.1 j) ∧ ∀ j, j < 4 → s.2.2.2 j = t.2.2.2 j
theorem LVe.refl (s : LV) : LVe s s := ⟨fun _ _ => rfl, fun _ _ => rfl, fun _ _ => rfl, fun _ _ => rfl⟩
theorem upd_eqv {N : Nat} {f g : Nat → Int32} (h : ∀ j, j < N → f j = g j) {k : Nat} {x y : Int32} (hx : x = y) : ∀ j, j < N → upd f k x j = upd g k y j := fun j hj => by
  subst hx
  by_cases e : j = k
  · rw [e, upd_at, upd_at]
  · rw [upd_ne e, upd_ne e, h j hj]
/-- the maybes that stand in the row: whom they are of, and in which years -/
theorem lvC_eqv {f : Nat → Int32} {m : Nat} (hw : 0 ≤ (f (116 + m)).toInt ∧ (f (116 + m)).toInt ≤ 13) (hw3 : f (110 + m) = Int32.ofInt 3 → (f (116 + m)).toInt ≤ 3) {s t : LV} (h : LVe s t) : LVe (lvC f m s) (lvC f m t) := by
  obtain ⟨e1, e2, e3, e4⟩ := h
  have ew : (f (116 + m)).toNatClampNeg = (f (116 + m)).toInt.toNat := rfl
  have l14 : (f (116 + m)).toNatClampNeg < 14 := by omega
  unfold lvC
  by_cases k3 : f (110 + m) = Int32.ofInt 3
  · have l4 : (f (116 + m)).toNatClampNeg < 4 := by have := hw3 k3; omega
    rw [if_pos k3, if_pos k3]
    exact ⟨e1, e2, e3, upd_eqv e4 (by rw [e4 _ l4])⟩
  · rw [if_neg k3, if_neg k3]
    by_cases nb : f (122 + m) < s.1 (f (116 + m)).toNatClampNeg ∨ ¬ s.2.1 (f (116 + m)).toNatClampNeg = i99
    · have nb' : f (122 + m) < t.1 (f (116 + m)).toNatClampNeg ∨ ¬ t.2.1 (f (116 + m)).toNatClampNeg = i99 := by rw [← e1 _ l14, ← e2 _ l14]; exact nb
      rw [if_pos nb, if_pos nb']
      exact ⟨e1, e2, e3, e4⟩
    · have nb' : ¬ (f (122 + m) < t.1 (f (116 + m)).toNatClampNeg ∨ ¬ t.2.1 (f (116 + m)).toNatClampNeg = i99) := by rw [← e1 _ l14, ← e2 _ l14]; exact nb
      rw [if_neg nb, if_neg nb']
      by_cases k0 : f (110 + m) = Int32.ofInt 0
      · rw [if_pos k0, if_pos k0]
        exact ⟨upd_eqv e1 rfl, e2, e3, e4⟩
      · rw [if_neg k0, if_neg k0]
        by_cases k1 : f (110 + m) = Int32.ofInt 1
        · rw [if_pos k1, if_pos k1]
          exact ⟨e1, upd_eqv e2 rfl, e3, e4⟩
        · rw [if_neg k1, if_neg k1]
          exact ⟨e1, e2, upd_eqv e3 (by rw [e3 _ l14]), e4⟩
theorem lvM_eqv {f : Nat → Int32} {set : Int32} {y m : Nat} (hf : mbOK f m) : ∀ (k : Nat), k ≤ m → ∀ {s t : LV}, LVe s t → LVe (lvM f set y k s) (lvM f set y k t)
  | 0, _, _, _, h => h
  | k + 1, hk, s, t, h => by
    have ih := lvM_eqv (set := set) (y := y) hf k (by omega) h
    unfold lvM
    by_cases c : lvB set k ∧ f (122 + k) = nI y
    · rw [if_pos c, if_pos c]
      exact lvC_eqv (hf k (by omega)).1 (hf k (by omega)).2 ih
    · rw [if_neg c, if_neg c]
      exact ih
theorem lvY_eqv {f : Nat → Int32} {set : Int32} {m : Nat} (hf : mbOK f m) : ∀ (y : Nat) {s t : LV}, LVe s t → LVe (lvY f set m y s) (lvY f set m y t)
  | 0, _, _, h => h
  | y + 1, _, _, h => lvM_eqv hf m (Nat.le_refl m) (lvY_eqv hf y h)
abbrev liL (set : Int32) (a : Nat) (l3 : Option Value) : XL := [some (.ref 536), some (.int set), some (.int (nI a)), l3]
set_option maxRecDepth 100000 in
/-- the rows of births, deaths, weddings, as at first -/
theorem lives_1 {d : Nat} {fs : List Value} {f : Nat → Int32} {n : Nat} (hf0 : f 0 = nI n) (hn : n ≤ 8) (set : Int32) (l3 : Option Value) {h0 : XH} {Q : Option Value → XH → Prop} (fin : ∀ (h1 : XH) (s1 : LV), LVo h0 h1 → LVk h1 fs f → LVr h1 s1 → (∀ j, j < 14 → s1.1 j = (lv0 n).1 j ∧ s1.2.1 j = i99 ∧ s1.2.2.1 j = i99) → XGe d xm_X7_lives (52, liL set 14 l3, [], h1) Q) : ∀ (q i : Nat) (h : XH) (s : LV), i + q = 14 → LVo h0 h → LVk h fs f → LVr h s → (∀ j, j < i → s.1 j = (lv0 n).1 j ∧ s.2.1 j = i99 ∧ s.2.2.1 j = i99) → XGe d xm_X7_lives (2, liL set i l3, [], h) Q
  | 0, i, h, s, hi, ho, hk, hs, hj => by
    have hi : i = 14 := by omega
    subst hi
    refine XGe.map (fun v hend k => ?_) (fin h s ho hk hs hj)
    refine XGo.go 3 rfl ?_
    exact XGo.ifp (show (Int8.ofInt 14).toInt32 ≤ nI 14 by decide) k
  | q + 1, i, h, s, hi, ho, hk, hs, hj => by
    obtain ⟨hN, h1, h2, f1, f4, f5, f6, f7⟩ := id hk
    obtain ⟨s1, s2, s3, s4⟩ := id hs
    have l1 : 536 < h.1 := by omega
    have hi14 : i < 14 := by omega
    have hsA : LVr (xup h 539 (.inr (.inl (0, 14, upd s.1 i ((lv0 n).1 i))))) (upd s.1 i ((lv0 n).1 i), s.2.1, s.2.2.1, s.2.2.2) := ⟨xup_eq _ _ _, (xup_ne _ _ (by decide)).trans s2, (xup_ne _ _ (by decide)).trans s3, (xup_ne _ _ (by decide)).trans s4⟩
    have hkA : LVk (xup h 539 (.inr (.inl (0, 14, upd s.1 i ((lv0 n).1 i))))) fs f := hk.up (by decide) _
    have hoA : LVo h0 (xup h 539 (.inr (.inl (0, 14, upd s.1 i ((lv0 n).1 i))))) := ho.trans (LVo.up (by decide) (by decide) _)
    generalize hA : xup h 539 (.inr (.inl (0, 14, upd s.1 i ((lv0 n).1 i)))) = A at hsA hkA hoA
    obtain ⟨AN, A1, A2, -⟩ := id hkA
    have a2 := hsA.2.1
    have hsB : LVr (xup A 540 (.inr (.inl (0, 14, upd s.2.1 i i99)))) (upd s.1 i ((lv0 n).1 i), upd s.2.1 i i99, s.2.2.1, s.2.2.2) := ⟨(xup_ne _ _ (by decide)).trans hsA.1, xup_eq _ _ _, (xup_ne _ _ (by decide)).trans hsA.2.2.1, (xup_ne _ _ (by decide)).trans hsA.2.2.2⟩
    have hkB : LVk (xup A 540 (.inr (.inl (0, 14, upd s.2.1 i i99)))) fs f := hkA.up (by decide) _
    have hoB : LVo h0 (xup A 540 (.inr (.inl (0, 14, upd s.2.1 i i99)))) := hoA.trans (LVo.up (by decide) (by decide) _)
    generalize hB : xup A 540 (.inr (.inl (0, 14, upd s.2.1 i i99))) = B at hsB hkB hoB
    obtain ⟨BN, B1, B2, -⟩ := id hkB
    have b3 := hsB.2.2.1
    have hsC : LVr (xup B 541 (.inr (.inl (0, 14, upd s.2.2.1 i i99)))) (upd s.1 i ((lv0 n).1 i), upd s.2.1 i i99, upd s.2.2.1 i i99, s.2.2.2) := ⟨(xup_ne _ _ (by decide)).trans hsB.1, (xup_ne _ _ (by decide)).trans hsB.2.1, xup_eq _ _ _, (xup_ne _ _ (by decide)).trans hsB.2.2.2⟩
    have hkC : LVk (xup B 541 (.inr (.inl (0, 14, upd s.2.2.1 i i99)))) fs f := hkB.up (by decide) _
    have hoC : LVo h0 (xup B 541 (.inr (.inl (0, 14, upd s.2.2.1 i i99)))) := hoB.trans (LVo.up (by decide) (by decide) _)
    generalize hC : xup B 541 (.inr (.inl (0, 14, upd s.2.2.1 i i99))) = C at hsC hkC hoC
    refine XGe.map (fun v hend k => ?_) (lives_1 hf0 hn set l3 fin q (i + 1) C _ (by omega) hoC hkC hsC (fun j hj2 => ?_))
    rotate_left
    · by_cases e : j = i
      · subst e
        exact ⟨upd_at, upd_at, upd_at⟩
      · obtain ⟨z1, z2, z3⟩ := hj j (by omega)
        exact ⟨(upd_ne e).trans z1, (upd_ne e).trans z2, (upd_ne e).trans z3⟩
    · have c14 : ¬ (Int8.ofInt 14).toInt32 ≤ nI i := fun z => absurd ((xnI_ge (m := 14) (by decide) (by omega)).mp z) (by omega)
      have rest : XGo d xm_X7_lives (29, liL set i l3, [.int ((lv0 n).1 i), .int (nI i), .ref 539], h) v hend := by
        refine XGo.iast rfl s1 (by omega) (by decide) (ca_nI hi14 (by decide)) ?_
        rw [xnI_nat (by omega), hA]
        refine XGo.go 1 rfl ?_
        refine XGo.getf rfl (xfd_o A1 (by omega) (by decide) f5) ?_
        refine XGo.go 2 rfl ?_
        refine XGo.iast rfl a2 (by omega) (by decide) (ca_nI hi14 (by decide)) ?_
        rw [xnI_nat (by omega)]
        show XGo _ _ (38, _, [], xup A 540 (.inr (.inl (0, 14, upd s.2.1 i i99)))) _ _
        rw [hB]
        refine XGo.go 1 rfl ?_
        refine XGo.getf rfl (xfd_o B1 (by omega) (by decide) f6) ?_
        refine XGo.go 2 rfl ?_
        refine XGo.iast rfl b3 (by omega) (by decide) (ca_nI hi14 (by decide)) ?_
        rw [xnI_nat (by omega)]
        show XGo _ _ (46, _, [], xup B 541 (.inr (.inl (0, 14, upd s.2.2.1 i i99)))) _ _
        rw [hC]
        refine XGo.go 2 rfl ?_
        show XGo _ _ (2, [some (.ref 536), some (.int set), some (.int (nI i + Int32.ofInt 1)), l3], [], C) _ _
        rw [show nI i + Int32.ofInt 1 = nI (i + 1) from nI_1 i]
        exact k
      refine XGo.go 3 rfl ?_
      refine XGo.ifn c14 ?_
      refine XGo.go 1 rfl ?_
      refine XGo.getf rfl (xfd_o h1 l1 (by decide) f4) ?_
      refine XGo.go 3 rfl ?_
      refine XGo.getf rfl (xfd_o h1 l1 (by decide) f1) ?_
      refine XGo.go 1 rfl ?_
      refine XGo.iald rfl (show xia h 0 537 (Int32.ofInt 0) = some (nI n) by rw [← hf0]; exact ia_nI (k := 0) h2 (by omega) (by decide) (by decide)) ?_
      refine XGo.go 1 rfl ?_
      by_cases hin : i < n
      · refine XGo.ifn (fun z => absurd ((xnI_ge (by omega) (by omega)).mp z) (by omega)) ?_
        refine XGo.go 2 rfl ?_
        have e : (lv0 n).1 i = Int32.ofInt 0 := if_pos hin
        rw [e] at rest
        exact rest
      · refine XGo.ifp ((xnI_ge (by omega) (by omega)).mpr (by omega)) ?_
        refine XGo.go 1 rfl ?_
        have e : (lv0 n).1 i = i99 := if_neg hin
        rw [e] at rest
        exact rest
