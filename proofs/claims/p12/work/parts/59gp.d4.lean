/-! the one that dies last -/
abbrev m1 : Int32 := Int32.ofInt (-1)
def mlS (de : Nat → Int32) : Nat → Option Int32
  | 0 => some m1
  | p + 1 => match mlS de p with
    | none => none
    | some z => if de p = i99 then none else if z = m1 ∨ ¬ de p ≤ de z.toNatClampNeg then some (nI p) else some z
theorem mlS_none {de : Nat → Int32} {p : Nat} (h : mlS de p = none) : ∀ k, mlS de (p + k) = none
  | 0 => h
  | k + 1 => by
    show (match mlS de (p + k) with | none => none | some z => _) = none
    rw [mlS_none h k]
theorem nI_m1 {p : Nat} (hp : p < 1000) : ¬ nI p = m1 := fun e => by
  have q := congrArg Int32.toInt e
  rw [nI_toInt (by omega), show m1.toInt = -1 by decide] at q
  omega
theorem nI_m5 {p : Nat} (hp : p < 1000) : ¬ nI p = m5 := fun e => by
  have q := congrArg Int32.toInt e
  rw [nI_toInt (by omega), show m5.toInt = -5 by decide] at q
  omega
/-- both walks of the deaths -/
theorem last_is {de dt : Nat → Int32} {n : Nat} (hn : n ≤ 14) (hd : ∀ i, i < n → dt i = if de i = i99 then c1000 else de i) (hb : ∀ i, i < n → lvIn 40 (de i)) : ∀ p, p ≤ n → (flS dt p = none ∧ mlS de p = none) ∨ (p = 0 ∧ flS dt p = some (m5, c1000) ∧ mlS de p = some m1) ∨ ∃ q, q < p ∧ ¬ de q = i99 ∧ flS dt p = some (nI q, de q) ∧ mlS de p = some (nI q)
  | 0, _ => Or.inr (Or.inl ⟨rfl, rfl, rfl⟩)
  | p + 1, hp => by
    have ih := last_is hn hd hb p (by omega)
    have s1 : flS dt (p + 1) = match flS dt p with
        | none => none
        | some z => if dt p = c1000 then none else if z.1 = m5 ∨ ¬ dt p ≤ z.2 then some (nI p, dt p) else some z := rfl
    have s2 : mlS de (p + 1) = match mlS de p with
        | none => none
        | some z => if de p = i99 then none else if z = m1 ∨ ¬ de p ≤ de z.toNatClampNeg then some (nI p) else some z := rfl
    have c9 : dt p = c1000 ↔ de p = i99 := by
      rw [hd p (by omega)]
      by_cases e : de p = i99
      · rw [if_pos e]
        exact ⟨fun _ => e, fun _ => rfl⟩
      · rw [if_neg e]
        refine ⟨fun z => ?_, fun z => absurd z e⟩
        rcases hb p (by omega) with w | ⟨-, w⟩
        · exact w
        · rw [z, c1000_int] at w
          omega
    rcases ih with ⟨a, b⟩ | ⟨e0, a, b⟩ | ⟨q, hq, hq9, a, b⟩
    · refine Or.inl ⟨?_, ?_⟩
      · rw [s1, a]
      · rw [s2, b]
    · by_cases e : de p = i99
      · refine Or.inl ⟨?_, ?_⟩
        · rw [s1, a]
          exact if_pos (c9.mpr e)
        · rw [s2, b]
          exact if_pos e
      · refine Or.inr (Or.inr ⟨p, by omega, e, ?_, ?_⟩)
        · rw [s1, a]
          dsimp only
          rw [if_neg (fun z => e (c9.mp z)), if_pos (Or.inl rfl), hd p (by omega), if_neg e]
        · rw [s2, b]
          dsimp only
          rw [if_neg e, if_pos (Or.inl rfl)]
    · by_cases e : de p = i99
      · refine Or.inl ⟨?_, ?_⟩
        · rw [s1, a]
          exact if_pos (c9.mpr e)
        · rw [s2, b]
          exact if_pos e
      · have ed : dt p = de p := by rw [hd p (by omega), if_neg e]
        by_cases c : de p ≤ de q
        · refine Or.inr (Or.inr ⟨q, by omega, hq9, ?_, ?_⟩)
          · rw [s1, a]
            dsimp only
            rw [if_neg (fun z => e (c9.mp z)), if_neg (fun z => z.elim (nI_m5 (by omega)) (fun w => w (by rw [ed]; exact c)))]
          · rw [s2, b]
            dsimp only
            rw [if_neg e, if_neg (fun z => z.elim (nI_m1 (by omega)) (fun w => w (by rw [xnI_nat (by omega)]; exact c)))]
        · refine Or.inr (Or.inr ⟨p, by omega, e, ?_, ?_⟩)
          · rw [s1, a]
            dsimp only
            rw [if_neg (fun z => e (c9.mp z)), if_pos (Or.inr (by rw [ed]; exact c)), ed]
          · rw [s2, b]
            dsimp only
            rw [if_neg e, if_pos (Or.inr (by rw [xnI_nat (by omega)]; exact c))]
/-- what measure says, of either side -/
theorem measure_is {de dt : Nat → Int32} {n : Nat} (hn : n ≤ 14) (hd : ∀ i, i < n → dt i = if de i = i99 then c1000 else de i) (hb : ∀ i, i < n → lvIn 40 (de i)) : (flR dt n).1 = if (mlS de n).getD m1 = m1 then m5 else (mlS de n).getD m1 := by
  unfold flR
  rcases last_is hn hd hb n (Nat.le_refl n) with ⟨a, b⟩ | ⟨-, a, b⟩ | ⟨q, hq, -, a, b⟩
  · rw [a, b]
    exact (if_pos rfl).symm
  · rw [a, b]
    exact (if_pos rfl).symm
  · rw [a, b]
    exact (if_neg (nI_m1 (by omega))).symm
set_option maxRecDepth 100000 in
theorem lastLife_l {d : Nat} {h : XH} {fs : List Value} {f : Nat → Int32} {s : LV} (hk : LVk h fs f) (hs : LVr h s) {n : Nat} (hf0 : f 0 = nI n) (hn : n ≤ 8) : ∀ (q p : Nat) (z : Int32), p + q = n → mlS s.2.1 p = some z → (z = m1 ∨ ∃ k, k < p ∧ z = nI k) → XGe d xm_X7_lastLife (4, [some (.ref 536), some (.int z), some (.int (nI p))], [], h) (fun v h1 => h1 = h ∧ v = some (.int ((mlS s.2.1 n).getD m1)))
  | q, p, z, hi, hz, hzk => by
    obtain ⟨hN, h1, h2, f1, f4, f5, f6, f7⟩ := id hk
    obtain ⟨s1, s2, s3, s4⟩ := id hs
    have l1 : 536 < h.1 := by omega
    have head : ∀ {v : Option Value} {hend : XH}, XGo d xm_X7_lastLife (if nI n ≤ nI p then 59 else 14, [some (.ref 536), some (.int z), some (.int (nI p))], [], h) v hend → XGo d xm_X7_lastLife (4, [some (.ref 536), some (.int z), some (.int (nI p))], [], h) v hend := fun g => by
      refine XGo.go 2 rfl ?_
      refine XGo.getf rfl (xfd_o h1 l1 (by decide) f1) ?_
      refine XGo.go 1 rfl ?_
      refine XGo.iald rfl (show xia h 0 537 (Int32.ofInt 0) = some (nI n) by rw [← hf0]; exact ia_nI (k := 0) h2 (by omega) (by decide) (by decide)) ?_
      exact XGo.go 1 rfl g
    match q, hi with
    | 0, hi =>
      have hi : p = n := by omega
      subst hi
      refine ⟨some (.int z), h, ⟨rfl, by rw [hz]; rfl⟩, head (XGo.ifp (Int32.le_refl _) ?_)⟩
      refine XGo.go 1 rfl ?_
      exact XGo.iret _ rfl rfl .int rfl rfl
    | q + 1, hi =>
      have hpn : p < n := by omega
      have cn : ¬ nI n ≤ nI p := fun w => absurd ((xnI_ge (by omega) (by omega)).mp w) (by omega)
      have c1 : ∀ {v : Option Value} {hend : XH}, XGo d xm_X7_lastLife (if s.2.1 p = i99 then 25 else 27, [some (.ref 536), some (.int z), some (.int (nI p))], [], h) v hend → XGo d xm_X7_lastLife (4, [some (.ref 536), some (.int z), some (.int (nI p))], [], h) v hend := fun g => head (XGo.ifn cn (by
        refine XGo.go 1 rfl ?_
        refine XGo.getf rfl (xfd_o h1 l1 (by decide) f5) ?_
        refine XGo.go 1 rfl ?_
        refine XGo.iald rfl (ia_nI s2 (by omega) (by omega) (by decide)) ?_
        exact XGo.go 2 rfl g))
      have stp : mlS s.2.1 (p + 1) = if s.2.1 p = i99 then none else if z = m1 ∨ ¬ s.2.1 p ≤ s.2.1 z.toNatClampNeg then some (nI p) else some z := by
        show (match mlS s.2.1 p with | none => none | some z => _) = _
        rw [hz]
      by_cases h9 : s.2.1 p = i99
      · rw [if_pos h9] at stp
        have e := mlS_none stp q
        refine ⟨some (.int m1), h, ⟨rfl, ?_⟩, c1 (XGo.ifp h9 ?_)⟩
        · rw [show n = p + 1 + q by omega, e]
          rfl
        · refine XGo.go 1 rfl ?_
          exact XGo.iret _ rfl rfl .int rfl rfl
      · rw [if_neg h9] at stp
        have next : ∀ {z' : Int32} {v : Option Value} {hend : XH}, XGo d xm_X7_lastLife (4, [some (.ref 536), some (.int z'), some (.int (nI (p + 1)))], [], h) v hend → XGo d xm_X7_lastLife (52, [some (.ref 536), some (.int z), some (.int (nI p))], [.int z'], h) v hend := fun {z' v hend} g => by
          refine XGo.go 3 rfl ?_
          show XGo _ _ (4, [some (.ref 536), some (.int z'), some (.int (nI p + Int32.ofInt 1))], [], h) _ _
          rw [show nI p + Int32.ofInt 1 = nI (p + 1) from nI_1 p]
          exact g
        have c2 : ∀ {v : Option Value} {hend : XH}, XGo d xm_X7_lastLife (if z = m1 then 47 else 32, [some (.ref 536), some (.int z), some (.int (nI p))], [], h) v hend → XGo d xm_X7_lastLife (27, [some (.ref 536), some (.int z), some (.int (nI p))], [], h) v hend := fun g => XGo.go 3 rfl g
        have c47 : ∀ {v : Option Value} {hend : XH}, XGo d xm_X7_lastLife (4, [some (.ref 536), some (.int (nI p)), some (.int (nI (p + 1)))], [], h) v hend → XGo d xm_X7_lastLife (47, [some (.ref 536), some (.int z), some (.int (nI p))], [], h) v hend := fun g => XGo.go 2 rfl (next g)
        by_cases hz1 : z = m1
        · rw [if_pos (Or.inl hz1)] at stp
          exact XGe.map (fun v hend g => c1 (XGo.ifn h9 (c2 (XGo.ifp hz1 (c47 g))))) (lastLife_l hk hs hf0 hn q (p + 1) (nI p) (by omega) stp (Or.inr ⟨p, by omega, rfl⟩))
        · obtain ⟨k, hkp, hzk2⟩ := hzk.resolve_left hz1
          have c3 : ∀ {v : Option Value} {hend : XH}, XGo d xm_X7_lastLife (if s.2.1 p ≤ s.2.1 z.toNatClampNeg then 51 else 47, [some (.ref 536), some (.int z), some (.int (nI p))], [], h) v hend → XGo d xm_X7_lastLife (32, [some (.ref 536), some (.int z), some (.int (nI p))], [], h) v hend := fun g => by
            refine XGo.go 1 rfl ?_
            refine XGo.getf rfl (xfd_o h1 l1 (by decide) f5) ?_
            refine XGo.go 1 rfl ?_
            refine XGo.iald rfl (ia_nI s2 (by omega) (by omega) (by decide)) ?_
            refine XGo.go 1 rfl ?_
            refine XGo.getf rfl (xfd_o h1 l1 (by decide) f5) ?_
            refine XGo.go 1 rfl ?_
            refine XGo.iald rfl (show xia h 0 540 z = some (s.2.1 z.toNatClampNeg) by rw [hzk2, xnI_nat (by omega)]; exact ia_nI s2 (by omega) (by omega) (by decide)) ?_
            exact XGo.go 1 rfl g
          by_cases hc : s.2.1 p ≤ s.2.1 z.toNatClampNeg
          · rw [if_neg (fun w => w.elim hz1 (fun w => w hc))] at stp
            exact XGe.map (fun v hend g => c1 (XGo.ifn h9 (c2 (XGo.ifn hz1 (c3 (XGo.ifp hc (XGo.go 1 rfl (next g)))))))) (lastLife_l hk hs hf0 hn q (p + 1) z (by omega) stp (Or.inr ⟨k, by omega, hzk2⟩))
          · rw [if_pos (Or.inr hc)] at stp
            exact XGe.map (fun v hend g => c1 (XGo.ifn h9 (c2 (XGo.ifn hz1 (c3 (XGo.ifn hc (c47 g))))))) (lastLife_l hk hs hf0 hn q (p + 1) (nI p) (by omega) stp (Or.inr ⟨p, by omega, rfl⟩))
  termination_by q => q
theorem k_lastLife (d : Nat) {h : XH} {fs : List Value} {f : Nat → Int32} {s : LV} (hk : LVk h fs f) (hs : LVr h s) {n : Nat} (hf0 : f 0 = nI n) (hn : n ≤ 8) : XCall xM (d + 1) 155 [.ref 536] h (some (.int ((mlS s.2.1 n).getD m1))) h := by
  obtain ⟨v, h1, ⟨rfl, rfl⟩, g⟩ := lastLife_l (d := d) hk hs hf0 hn n 0 m1 (by omega) rfl (Or.inl rfl)
  exact XCall.of (M := xm_X7_lastLife) rfl (Nat.le_of_ble_eq_true rfl) (XGo.go 4 rfl g)
