/-! the rest of become, out of a walk from its cut -/
theorem w_ga14 : ga w_W (avR 14) (.ref 14) := by
  have q : ∃ j : Nat, Value.ref 14 = .ref j ∧ w_W.1 j = 14 ∧ j < w_W.2.2.2.1 := ⟨14, rfl, (w_W1 14).trans w_rg_14, by decide⟩
  exact q
theorem w_ga42 : ga w_W (avR 27) (.ref 42) := by
  have q : ∃ j : Nat, Value.ref 42 = .ref j ∧ w_W.1 j = 27 ∧ j < w_W.2.2.2.1 := ⟨42, rfl, (w_W1 42).trans w_rg_42, by decide⟩
  exact q
theorem becr {P0 : Nat × List APr} {p : APm} {cut : ACut} {T O pt po : Nat} {bw : AWr} (hcs : ∀ c ∈ p.2.2.2.2.1, AHp w_W P0 c.2) (hc : p.2.2.2.2.2.2.all (acut0 p 3000) = true) (hmem : cut ∈ p.2.2.2.2.2.2)
    (he : p.1 = w_W ∧ p.2.1 = P0 ∧ p.2.2.1 = xm_X5_become ∧ p.2.2.2.1.1.2.2.1 = [(none, [], [])] ∧ p.2.2.2.1.1.2.2.2.1 = bw ∧ p.2.2.2.1.1.2.2.2.2 = 3 ∧ cut.1 = (71, [some (avR T), some (avR O), none], [], []))
    (gt : ga w_W (avR T) (.ref pt)) (go : ga w_W (avR O) (.ref po)) {h : XH} (hI : AInv w_W h) (hP : PInv w_W P0 h []) {l2 : Option Value} (hl : ∀ v, l2 = some v → v.category ≠ 2) : ∃ h1 : XH, XGo 2 xm_X5_become (71, [some (.ref pt), some (.ref po), l2], [], h) none h1 ∧ AInv w_W h1 ∧ PInv w_W P0 h1 [] ∧ AFr w_W bw h h1 := by
  obtain ⟨W, P, M, ct, cs, hs, cuts⟩ := p
  obtain ⟨e1, e2, e3, e4, e5, e6, e7⟩ := he
  dsimp only at e1 e2 e3 e4 e5 e6 hcs hmem
  subst e1
  subst e2
  subst e3
  subst e5
  have hgp : gpl w_W cut.1.2.1 [some (.ref pt), some (.ref po), l2] := by
    rw [e7]
    refine ⟨rfl, fun i o ho => ?_⟩
    match i, ho with
    | 0, ho => cases ho; exact ⟨_, rfl, _, rfl, gt⟩
    | 1, ho => cases ho; exact ⟨_, rfl, _, rfl, go⟩
    | 2, ho => cases ho; exact ⟨_, rfl, hl⟩
    | i + 3, ho => cases ho
  obtain ⟨k, c3, E3, m1, m2, v3, v1, v2, v4, o, ho, o1, o2, -⟩ := acut_ok (p := (w_W, P, xm_X5_become, ct, cs, hs, cuts)) w_k hcs hc _ cut (71, [some (.ref pt), some (.ref po), l2], [], h) hmem (Nat.lt_succ_self _) (by rw [e7]) hgp (by rw [e7]; exact fun _ => trivial) (by rw [e7]; exact fun q hq => by cases hq) hI hP
  have ho : o ∈ ct.1.2.2.1 := ho
  rw [e4] at ho
  have ho := List.mem_singleton.mp ho
  subst ho
  have hv : v3 = none := o1.1
  subst hv
  have m1 : XRuns xM (XCall xM (ct.1.2.2.2.2 - 1)) xm_X5_become k (71, [some (.ref pt), some (.ref po), l2], [], h) c3 := m1
  rw [e6] at m1
  exact ⟨c3.2.2.2, ⟨k, c3, m1, v1, rfl⟩, v2, v4, m2⟩
