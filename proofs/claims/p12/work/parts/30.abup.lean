/-! a call may have more room below it -/
theorem XStep.up {M : XMeth} {call call2 : XCl} (hc : ∀ i as h v h1, call i as h v h1 → call2 i as h v h1) {c c1 : XC} (h : XStep xM call M c c1) : XStep xM call2 M c c1 := by
  obtain ⟨r, hr, hp, ⟨o, a, b⟩ | ⟨o, a, b⟩ | ⟨M1, as, rest, v, h1, a1, a2, a3, a4, a5, a6, a7, a8⟩⟩ := h
  · exact ⟨r, hr, hp, Or.inl ⟨o, a, b⟩⟩
  · exact ⟨r, hr, hp, Or.inr (Or.inl ⟨o, a, b⟩)⟩
  · exact ⟨r, hr, hp, Or.inr (Or.inr ⟨M1, as, rest, v, h1, a1, a2, a3, a4, a5, a6, hc _ _ _ _ _ a7, a8⟩)⟩
theorem XRuns.up {M : XMeth} {call call2 : XCl} (hc : ∀ i as h v h1, call i as h v h1 → call2 i as h v h1) : ∀ (n : Nat) {c c1 : XC}, XRuns xM call M n c c1 → XRuns xM call2 M n c c1
  | 0, _, _, h => h
  | n + 1, _, _, ⟨c2, h1, h2⟩ => ⟨c2, h1.up hc, XRuns.up hc n h2⟩
theorem XCall.up1 : ∀ (d : Nat) (i : Nat) (as : List Value) (h : XH) (v : Option Value) (h1 : XH), XCall xM d i as h v h1 → XCall xM (d + 1) i as h v h1
  | 0, _, _, _, _, _, h => False.elim h
  | d + 1, i, as, h, v, h1, ⟨M, n, c, a, b, e, f⟩ => ⟨M, n, c, a, b, XRuns.up (XCall.up1 d) n e, f⟩
theorem XCall.up {d e : Nat} (hde : d ≤ e) {i : Nat} {as : List Value} {h : XH} {v : Option Value} {h1 : XH} (k : XCall xM d i as h v h1) : XCall xM e i as h v h1 := by
  induction hde with
  | refl => exact k
  | step _ ih => exact XCall.up1 _ _ _ _ _ _ ih
