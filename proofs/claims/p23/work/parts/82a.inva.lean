/-! each call under INVa (written by wip/p5/gen/inva.py) -/
theorem A_person (a0 : Int32) (a1 : Int32) {L : Nat} {xs : Nat → Int32} {h : XH} (hA : INVa L xs h) : ∃ (v : Int32) (h1 h2 : XH), XCall xM 11 62 [.ref 13, .int a0, .int a1] h (some (.int v)) h1 ∧ AInv w_W h1 ∧ h1.2.2 1 = h.2.2 1 ∧ XCall xM 11 113 [.ref 536, .int a0, .int a1] h1 (some (.int v)) h2 ∧ INVa L xs h2 := by
  obtain ⟨v, h1, h2, c1, i1, q1, c2, i2⟩ := G_person a0 a1 hA.1
  exact ⟨v, h1, h2, c1, i1, q1, c2, i2, (XCall.ext _ _ _ _ _ _ c2 (by rw [i1.1]; decide) 0 (by decide)).trans ((XCall.ext _ _ _ _ _ _ c1 (by rw [hA.1.1.1.1]; decide) 0 (by decide)).trans hA.2)⟩
theorem A_maybe (a0 : Int32) (a1 : Int32) (a2 : Int32) {L : Nat} {xs : Nat → Int32} {h : XH} (hA : INVa L xs h) : ∃ (v : Int32) (h1 h2 : XH), XCall xM 11 63 [.ref 13, .int a0, .int a1, .int a2] h (some (.int v)) h1 ∧ AInv w_W h1 ∧ h1.2.2 1 = h.2.2 1 ∧ XCall xM 11 114 [.ref 536, .int a0, .int a1, .int a2] h1 (some (.int v)) h2 ∧ INVa L xs h2 := by
  obtain ⟨v, h1, h2, c1, i1, q1, c2, i2⟩ := G_maybe a0 a1 a2 hA.1
  exact ⟨v, h1, h2, c1, i1, q1, c2, i2, (XCall.ext _ _ _ _ _ _ c2 (by rw [i1.1]; decide) 0 (by decide)).trans ((XCall.ext _ _ _ _ _ _ c1 (by rw [hA.1.1.1.1]; decide) 0 (by decide)).trans hA.2)⟩
theorem Ac_life (a0 : Int32) (a1 : Int32) (a2 : Int32) (a3 : Int32) {L : Nat} {xs : Nat → Int32} {h : XH} (hA : INVa L xs h) : ∃ (v : Int32) (h1 : XH), XCall xM 11 64 [.ref 13, .int a0, .int a1, .int a2, .int a3] h (some (.int v)) h1 ∧ INVa L xs h1 := by
  obtain ⟨v, h1, c1, i1⟩ := Gc_life a0 a1 a2 a3 hA.1
  exact ⟨v, h1, c1, i1, (XCall.ext _ _ _ _ _ _ c1 (by rw [hA.1.1.1.1]; decide) 0 (by decide)).trans hA.2⟩
theorem Am_life (a0 : Int32) (a1 : Int32) (a2 : Int32) (a3 : Int32) {L : Nat} {xs : Nat → Int32} {h : XH} (hA : INVa L xs h) : ∃ (v : Int32) (h1 : XH), XCall xM 11 119 [.ref 536, .int a0, .int a1, .int a2, .int a3] h (some (.int v)) h1 ∧ INVa L xs h1 := by
  obtain ⟨v, h1, c1, i1⟩ := Gm_life a0 a1 a2 a3 hA.1
  exact ⟨v, h1, c1, i1, (XCall.ext _ _ _ _ _ _ c1 (by rw [hA.1.1.1.1]; decide) 0 (by decide)).trans hA.2⟩
theorem A_feed (a0 : Int64) (a1 : Int32) {L : Nat} {xs : Nat → Int32} {h : XH} (hA : INVa L xs h) : ∃ (v : Int32) (h1 h2 : XH), XCall xM 11 65 [.ref 13, .long a0, .int a1] h (some (.int v)) h1 ∧ AInv w_W h1 ∧ h1.2.2 1 = h.2.2 1 ∧ XCall xM 11 120 [.ref 536, .long a0, .int a1] h1 (some (.int v)) h2 ∧ INVa L xs h2 := by
  obtain ⟨v, h1, h2, c1, i1, q1, c2, i2⟩ := G_feed a0 a1 hA.1
  exact ⟨v, h1, h2, c1, i1, q1, c2, i2, (XCall.ext _ _ _ _ _ _ c2 (by rw [i1.1]; decide) 0 (by decide)).trans ((XCall.ext _ _ _ _ _ _ c1 (by rw [hA.1.1.1.1]; decide) 0 (by decide)).trans hA.2)⟩
theorem A_grant  {L : Nat} {xs : Nat → Int32} {h : XH} (hA : INVa L xs h) : ∃ (v : Int32) (h1 h2 : XH), XCall xM 11 66 [.ref 13] h (some (.int v)) h1 ∧ AInv w_W h1 ∧ h1.2.2 1 = h.2.2 1 ∧ XCall xM 11 130 [.ref 536] h1 (some (.int v)) h2 ∧ INVa L xs h2 := by
  obtain ⟨v, h1, h2, c1, i1, q1, c2, i2⟩ := G_grant  hA.1
  exact ⟨v, h1, h2, c1, i1, q1, c2, i2, (XCall.ext _ _ _ _ _ _ c2 (by rw [i1.1]; decide) 0 (by decide)).trans ((XCall.ext _ _ _ _ _ _ c1 (by rw [hA.1.1.1.1]; decide) 0 (by decide)).trans hA.2)⟩
theorem Ac_told (a0 : Int32) (a1 : Int32) {L : Nat} {xs : Nat → Int32} {h : XH} (hA : INVa L xs h) : ∃ (v : Int32) (h1 : XH), XCall xM 11 67 [.ref 13, .int a0, .int a1] h (some (.int v)) h1 ∧ INVa L xs h1 := by
  obtain ⟨v, h1, c1, i1⟩ := Gc_told a0 a1 hA.1
  exact ⟨v, h1, c1, i1, (XCall.ext _ _ _ _ _ _ c1 (by rw [hA.1.1.1.1]; decide) 0 (by decide)).trans hA.2⟩
theorem Am_told (a0 : Int32) (a1 : Int32) {L : Nat} {xs : Nat → Int32} {h : XH} (hA : INVa L xs h) : ∃ (v : Int32) (h1 : XH), XCall xM 11 132 [.ref 536, .int a0, .int a1] h (some (.int v)) h1 ∧ INVa L xs h1 := by
  obtain ⟨v, h1, c1, i1⟩ := Gm_told a0 a1 hA.1
  exact ⟨v, h1, c1, i1, (XCall.ext _ _ _ _ _ _ c1 (by rw [hA.1.1.1.1]; decide) 0 (by decide)).trans hA.2⟩
theorem Ac_has (a0 : Int32) (a1 : Int32) (a2 : Int32) (a3 : Int32) {L : Nat} {xs : Nat → Int32} {h : XH} (hA : INVa L xs h) : ∃ (v : Int32) (h1 : XH), XCall xM 11 68 [.ref 13, .int a0, .int a1, .int a2, .int a3] h (some (.int v)) h1 ∧ INVa L xs h1 := by
  obtain ⟨v, h1, c1, i1⟩ := Gc_has a0 a1 a2 a3 hA.1
  exact ⟨v, h1, c1, i1, (XCall.ext _ _ _ _ _ _ c1 (by rw [hA.1.1.1.1]; decide) 0 (by decide)).trans hA.2⟩
theorem Am_has (a0 : Int32) (a1 : Int32) (a2 : Int32) (a3 : Int32) {L : Nat} {xs : Nat → Int32} {h : XH} (hA : INVa L xs h) : ∃ (v : Int32) (h1 : XH), XCall xM 11 147 [.ref 536, .int a0, .int a1, .int a2, .int a3] h (some (.int v)) h1 ∧ INVa L xs h1 := by
  obtain ⟨v, h1, c1, i1⟩ := Gm_has a0 a1 a2 a3 hA.1
  exact ⟨v, h1, c1, i1, (XCall.ext _ _ _ _ _ _ c1 (by rw [hA.1.1.1.1]; decide) 0 (by decide)).trans hA.2⟩
theorem Ac_began (a0 : Int32) (a1 : Int32) (a2 : Int32) {L : Nat} {xs : Nat → Int32} {h : XH} (hA : INVa L xs h) : ∃ (v : Int32) (h1 : XH), XCall xM 11 69 [.ref 13, .int a0, .int a1, .int a2] h (some (.int v)) h1 ∧ INVa L xs h1 := by
  obtain ⟨v, h1, c1, i1⟩ := Gc_began a0 a1 a2 hA.1
  exact ⟨v, h1, c1, i1, (XCall.ext _ _ _ _ _ _ c1 (by rw [hA.1.1.1.1]; decide) 0 (by decide)).trans hA.2⟩
theorem Am_began (a0 : Int32) (a1 : Int32) (a2 : Int32) {L : Nat} {xs : Nat → Int32} {h : XH} (hA : INVa L xs h) : ∃ (v : Int32) (h1 : XH), XCall xM 11 148 [.ref 536, .int a0, .int a1, .int a2] h (some (.int v)) h1 ∧ INVa L xs h1 := by
  obtain ⟨v, h1, c1, i1⟩ := Gm_began a0 a1 a2 hA.1
  exact ⟨v, h1, c1, i1, (XCall.ext _ _ _ _ _ _ c1 (by rw [hA.1.1.1.1]; decide) 0 (by decide)).trans hA.2⟩
theorem Ac_sure (a0 : Int32) (a1 : Int32) (a2 : Int32) {L : Nat} {xs : Nat → Int32} {h : XH} (hA : INVa L xs h) : ∃ (v : Int32) (h1 : XH), XCall xM 11 70 [.ref 13, .int a0, .int a1, .int a2] h (some (.int v)) h1 ∧ INVa L xs h1 := by
  obtain ⟨v, h1, c1, i1⟩ := Gc_sure a0 a1 a2 hA.1
  exact ⟨v, h1, c1, i1, (XCall.ext _ _ _ _ _ _ c1 (by rw [hA.1.1.1.1]; decide) 0 (by decide)).trans hA.2⟩
theorem Am_sure (a0 : Int32) (a1 : Int32) (a2 : Int32) {L : Nat} {xs : Nat → Int32} {h : XH} (hA : INVa L xs h) : ∃ (v : Int32) (h1 : XH), XCall xM 11 150 [.ref 536, .int a0, .int a1, .int a2] h (some (.int v)) h1 ∧ INVa L xs h1 := by
  obtain ⟨v, h1, c1, i1⟩ := Gm_sure a0 a1 a2 hA.1
  exact ⟨v, h1, c1, i1, (XCall.ext _ _ _ _ _ _ c1 (by rw [hA.1.1.1.1]; decide) 0 (by decide)).trans hA.2⟩
theorem Ac_holders (a0 : Int32) (a1 : Int32) {L : Nat} {xs : Nat → Int32} {h : XH} (hA : INVa L xs h) : ∃ (v : Int32) (h1 : XH), XCall xM 11 71 [.ref 13, .int a0, .int a1] h (some (.int v)) h1 ∧ INVa L xs h1 := by
  obtain ⟨v, h1, c1, i1⟩ := Gc_holders a0 a1 hA.1
  exact ⟨v, h1, c1, i1, (XCall.ext _ _ _ _ _ _ c1 (by rw [hA.1.1.1.1]; decide) 0 (by decide)).trans hA.2⟩
theorem Am_holders (a0 : Int32) (a1 : Int32) {L : Nat} {xs : Nat → Int32} {h : XH} (hA : INVa L xs h) : ∃ (v : Int32) (h1 : XH), XCall xM 11 151 [.ref 536, .int a0, .int a1] h (some (.int v)) h1 ∧ INVa L xs h1 := by
  obtain ⟨v, h1, c1, i1⟩ := Gm_holders a0 a1 hA.1
  exact ⟨v, h1, c1, i1, (XCall.ext _ _ _ _ _ _ c1 (by rw [hA.1.1.1.1]; decide) 0 (by decide)).trans hA.2⟩
theorem Ac_share (a0 : Int32) (a1 : Int32) (a2 : Int32) (a3 : Int32) {L : Nat} {xs : Nat → Int32} {h : XH} (hA : INVa L xs h) : ∃ (v : Int32) (h1 : XH), XCall xM 11 72 [.ref 13, .int a0, .int a1, .int a2, .int a3] h (some (.int v)) h1 ∧ INVa L xs h1 := by
  obtain ⟨v, h1, c1, i1⟩ := Gc_share a0 a1 a2 a3 hA.1
  exact ⟨v, h1, c1, i1, (XCall.ext _ _ _ _ _ _ c1 (by rw [hA.1.1.1.1]; decide) 0 (by decide)).trans hA.2⟩
theorem Am_share (a0 : Int32) (a1 : Int32) (a2 : Int32) (a3 : Int32) {L : Nat} {xs : Nat → Int32} {h : XH} (hA : INVa L xs h) : ∃ (v : Int32) (h1 : XH), XCall xM 11 152 [.ref 536, .int a0, .int a1, .int a2, .int a3] h (some (.int v)) h1 ∧ INVa L xs h1 := by
  obtain ⟨v, h1, c1, i1⟩ := Gm_share a0 a1 a2 a3 hA.1
  exact ⟨v, h1, c1, i1, (XCall.ext _ _ _ _ _ _ c1 (by rw [hA.1.1.1.1]; decide) 0 (by decide)).trans hA.2⟩
theorem Ac_judged (a0 : Int32) (a1 : Int32) {L : Nat} {xs : Nat → Int32} {h : XH} (hA : INVa L xs h) : ∃ (v : Int32) (h1 : XH), XCall xM 11 73 [.ref 13, .int a0, .int a1] h (some (.int v)) h1 ∧ INVa L xs h1 := by
  obtain ⟨v, h1, c1, i1⟩ := Gc_judged a0 a1 hA.1
  exact ⟨v, h1, c1, i1, (XCall.ext _ _ _ _ _ _ c1 (by rw [hA.1.1.1.1]; decide) 0 (by decide)).trans hA.2⟩
theorem Am_judged (a0 : Int32) (a1 : Int32) {L : Nat} {xs : Nat → Int32} {h : XH} (hA : INVa L xs h) : ∃ (v : Int32) (h1 : XH), XCall xM 11 153 [.ref 536, .int a0, .int a1] h (some (.int v)) h1 ∧ INVa L xs h1 := by
  obtain ⟨v, h1, c1, i1⟩ := Gm_judged a0 a1 hA.1
  exact ⟨v, h1, c1, i1, (XCall.ext _ _ _ _ _ _ c1 (by rw [hA.1.1.1.1]; decide) 0 (by decide)).trans hA.2⟩
theorem Ac_row (a0 : Int32) {L : Nat} {xs : Nat → Int32} {h : XH} (hA : INVa L xs h) : ∃ (v : Int32) (h1 : XH), XCall xM 11 74 [.ref 13, .int a0] h (some (.int v)) h1 ∧ INVa L xs h1 := by
  obtain ⟨v, h1, c1, i1⟩ := Gc_row a0 hA.1
  exact ⟨v, h1, c1, i1, (XCall.ext _ _ _ _ _ _ c1 (by rw [hA.1.1.1.1]; decide) 0 (by decide)).trans hA.2⟩
theorem Am_row (a0 : Int32) {L : Nat} {xs : Nat → Int32} {h : XH} (hA : INVa L xs h) : ∃ (v : Int32) (h1 : XH), XCall xM 11 154 [.ref 536, .int a0] h (some (.int v)) h1 ∧ INVa L xs h1 := by
  obtain ⟨v, h1, c1, i1⟩ := Gm_row a0 hA.1
  exact ⟨v, h1, c1, i1, (XCall.ext _ _ _ _ _ _ c1 (by rw [hA.1.1.1.1]; decide) 0 (by decide)).trans hA.2⟩
theorem Ac_late (a0 : Int32) (a1 : Int32) (a2 : Int32) (a3 : Int32) {L : Nat} {xs : Nat → Int32} {h : XH} (hA : INVa L xs h) : ∃ (v : Int32) (h1 : XH), XCall xM 11 75 [.ref 13, .int a0, .int a1, .int a2, .int a3] h (some (.int v)) h1 ∧ INVa L xs h1 := by
  obtain ⟨v, h1, c1, i1⟩ := Gc_late a0 a1 a2 a3 hA.1
  exact ⟨v, h1, c1, i1, (XCall.ext _ _ _ _ _ _ c1 (by rw [hA.1.1.1.1]; decide) 0 (by decide)).trans hA.2⟩
theorem Am_late (a0 : Int32) (a1 : Int32) (a2 : Int32) (a3 : Int32) {L : Nat} {xs : Nat → Int32} {h : XH} (hA : INVa L xs h) : ∃ (v : Int32) (h1 : XH), XCall xM 11 158 [.ref 536, .int a0, .int a1, .int a2, .int a3] h (some (.int v)) h1 ∧ INVa L xs h1 := by
  obtain ⟨v, h1, c1, i1⟩ := Gm_late a0 a1 a2 a3 hA.1
  exact ⟨v, h1, c1, i1, (XCall.ext _ _ _ _ _ _ c1 (by rw [hA.1.1.1.1]; decide) 0 (by decide)).trans hA.2⟩
theorem Ac_measure (a0 : Int32) {L : Nat} {xs : Nat → Int32} {h : XH} (hA : INVa L xs h) : ∃ (v : Int32) (h1 : XH), XCall xM 11 76 [.ref 13, .int a0] h (some (.int v)) h1 ∧ INVa L xs h1 := by
  obtain ⟨v, h1, c1, i1⟩ := Gc_measure a0 hA.1
  exact ⟨v, h1, c1, i1, (XCall.ext _ _ _ _ _ _ c1 (by rw [hA.1.1.1.1]; decide) 0 (by decide)).trans hA.2⟩
theorem Am_measure (a0 : Int32) {L : Nat} {xs : Nat → Int32} {h : XH} (hA : INVa L xs h) : ∃ (v : Int32) (h1 : XH), XCall xM 11 159 [.ref 536, .int a0] h (some (.int v)) h1 ∧ INVa L xs h1 := by
  obtain ⟨v, h1, c1, i1⟩ := Gm_measure a0 hA.1
  exact ⟨v, h1, c1, i1, (XCall.ext _ _ _ _ _ _ c1 (by rw [hA.1.1.1.1]; decide) 0 (by decide)).trans hA.2⟩
theorem Ac_see (a0 : Int32) (a1 : Int32) (a2 : Int32) (a3 : Int32) {L : Nat} {xs : Nat → Int32} {h : XH} (hA : INVa L xs h) : ∃ (v : Int32) (h1 : XH), XCall xM 11 77 [.ref 13, .int a0, .int a1, .int a2, .int a3] h (some (.int v)) h1 ∧ INVa L xs h1 := by
  obtain ⟨v, h1, c1, i1⟩ := Gc_see a0 a1 a2 a3 hA.1
  exact ⟨v, h1, c1, i1, (XCall.ext _ _ _ _ _ _ c1 (by rw [hA.1.1.1.1]; decide) 0 (by decide)).trans hA.2⟩
theorem Am_see (a0 : Int32) (a1 : Int32) (a2 : Int32) (a3 : Int32) {L : Nat} {xs : Nat → Int32} {h : XH} (hA : INVa L xs h) : ∃ (v : Int32) (h1 : XH), XCall xM 11 160 [.ref 536, .int a0, .int a1, .int a2, .int a3] h (some (.int v)) h1 ∧ INVa L xs h1 := by
  obtain ⟨v, h1, c1, i1⟩ := Gm_see a0 a1 a2 a3 hA.1
  exact ⟨v, h1, c1, i1, (XCall.ext _ _ _ _ _ _ c1 (by rw [hA.1.1.1.1]; decide) 0 (by decide)).trans hA.2⟩
theorem A_strike (a0 : Int32) (a1 : Int32) {L : Nat} {xs : Nat → Int32} {h : XH} (hA : INVa L xs h) : ∃ (v : Int32) (h1 h2 : XH), XCall xM 11 78 [.ref 13, .int a0, .int a1] h (some (.int v)) h1 ∧ AInv w_W h1 ∧ h1.2.2 1 = h.2.2 1 ∧ XCall xM 11 162 [.ref 536, .int a0, .int a1] h1 (some (.int v)) h2 ∧ INVa L xs h2 := by
  obtain ⟨v, h1, h2, c1, i1, q1, c2, i2⟩ := G_strike a0 a1 hA.1
  exact ⟨v, h1, h2, c1, i1, q1, c2, i2, (XCall.ext _ _ _ _ _ _ c2 (by rw [i1.1]; decide) 0 (by decide)).trans ((XCall.ext _ _ _ _ _ _ c1 (by rw [hA.1.1.1.1]; decide) 0 (by decide)).trans hA.2)⟩
theorem A_mend (a0 : Int32) (a1 : Int32) (a2 : Int32) {L : Nat} {xs : Nat → Int32} {h : XH} (hA : INVa L xs h) : ∃ (v : Int32) (h1 h2 : XH), XCall xM 11 79 [.ref 13, .int a0, .int a1, .int a2] h (some (.int v)) h1 ∧ AInv w_W h1 ∧ h1.2.2 1 = h.2.2 1 ∧ XCall xM 11 163 [.ref 536, .int a0, .int a1, .int a2] h1 (some (.int v)) h2 ∧ INVa L xs h2 := by
  obtain ⟨v, h1, h2, c1, i1, q1, c2, i2⟩ := G_mend a0 a1 a2 hA.1
  exact ⟨v, h1, h2, c1, i1, q1, c2, i2, (XCall.ext _ _ _ _ _ _ c2 (by rw [i1.1]; decide) 0 (by decide)).trans ((XCall.ext _ _ _ _ _ _ c1 (by rw [hA.1.1.1.1]; decide) 0 (by decide)).trans hA.2)⟩
theorem Ac_both (a0 : Int32) (a1 : Int32) (a2 : Int32) (a3 : Int32) {L : Nat} {xs : Nat → Int32} {h : XH} (hA : INVa L xs h) : ∃ (v : Int32) (h1 : XH), XCall xM 11 80 [.ref 13, .int a0, .int a1, .int a2, .int a3] h (some (.int v)) h1 ∧ INVa L xs h1 := by
  obtain ⟨v, h1, c1, i1⟩ := Gc_both a0 a1 a2 a3 hA.1
  exact ⟨v, h1, c1, i1, (XCall.ext _ _ _ _ _ _ c1 (by rw [hA.1.1.1.1]; decide) 0 (by decide)).trans hA.2⟩
theorem Am_both (a0 : Int32) (a1 : Int32) (a2 : Int32) (a3 : Int32) {L : Nat} {xs : Nat → Int32} {h : XH} (hA : INVa L xs h) : ∃ (v : Int32) (h1 : XH), XCall xM 11 165 [.ref 536, .int a0, .int a1, .int a2, .int a3] h (some (.int v)) h1 ∧ INVa L xs h1 := by
  obtain ⟨v, h1, c1, i1⟩ := Gm_both a0 a1 a2 a3 hA.1
  exact ⟨v, h1, c1, i1, (XCall.ext _ _ _ _ _ _ c1 (by rw [hA.1.1.1.1]; decide) 0 (by decide)).trans hA.2⟩
theorem Ac_clash (a0 : Int32) (a1 : Int32) (a2 : Int32) {L : Nat} {xs : Nat → Int32} {h : XH} (hA : INVa L xs h) : ∃ (v : Int32) (h1 : XH), XCall xM 11 81 [.ref 13, .int a0, .int a1, .int a2] h (some (.int v)) h1 ∧ INVa L xs h1 := by
  obtain ⟨v, h1, c1, i1⟩ := Gc_clash a0 a1 a2 hA.1
  exact ⟨v, h1, c1, i1, (XCall.ext _ _ _ _ _ _ c1 (by rw [hA.1.1.1.1]; decide) 0 (by decide)).trans hA.2⟩
theorem Am_clash (a0 : Int32) (a1 : Int32) (a2 : Int32) {L : Nat} {xs : Nat → Int32} {h : XH} (hA : INVa L xs h) : ∃ (v : Int32) (h1 : XH), XCall xM 11 166 [.ref 536, .int a0, .int a1, .int a2] h (some (.int v)) h1 ∧ INVa L xs h1 := by
  obtain ⟨v, h1, c1, i1⟩ := Gm_clash a0 a1 a2 hA.1
  exact ⟨v, h1, c1, i1, (XCall.ext _ _ _ _ _ _ c1 (by rw [hA.1.1.1.1]; decide) 0 (by decide)).trans hA.2⟩
theorem Ac_same (a0 : Int32) (a1 : Int32) {L : Nat} {xs : Nat → Int32} {h : XH} (hA : INVa L xs h) : ∃ (v : Int32) (h1 : XH), XCall xM 11 82 [.ref 13, .int a0, .int a1] h (some (.int v)) h1 ∧ INVa L xs h1 := by
  obtain ⟨v, h1, c1, i1⟩ := Gc_same a0 a1 hA.1
  exact ⟨v, h1, c1, i1, (XCall.ext _ _ _ _ _ _ c1 (by rw [hA.1.1.1.1]; decide) 0 (by decide)).trans hA.2⟩
theorem Am_same (a0 : Int32) (a1 : Int32) {L : Nat} {xs : Nat → Int32} {h : XH} (hA : INVa L xs h) : ∃ (v : Int32) (h1 : XH), XCall xM 11 167 [.ref 536, .int a0, .int a1] h (some (.int v)) h1 ∧ INVa L xs h1 := by
  obtain ⟨v, h1, c1, i1⟩ := Gm_same a0 a1 hA.1
  exact ⟨v, h1, c1, i1, (XCall.ext _ _ _ _ _ _ c1 (by rw [hA.1.1.1.1]; decide) 0 (by decide)).trans hA.2⟩
theorem Ac_trace (a0 : Int32) {L : Nat} {xs : Nat → Int32} {h : XH} (hA : INVa L xs h) : ∃ (v : Int32) (h1 : XH), XCall xM 11 84 [.ref 13, .int a0] h (some (.int v)) h1 ∧ INVa L xs h1 := by
  obtain ⟨v, h1, c1, i1⟩ := Gc_trace a0 hA.1
  exact ⟨v, h1, c1, i1, (XCall.ext _ _ _ _ _ _ c1 (by rw [hA.1.1.1.1]; decide) 0 (by decide)).trans hA.2⟩
theorem Am_trace (a0 : Int32) {L : Nat} {xs : Nat → Int32} {h : XH} (hA : INVa L xs h) : ∃ (v : Int32) (h1 : XH), XCall xM 11 178 [.ref 536, .int a0] h (some (.int v)) h1 ∧ INVa L xs h1 := by
  obtain ⟨v, h1, c1, i1⟩ := Gm_trace a0 hA.1
  exact ⟨v, h1, c1, i1, (XCall.ext _ _ _ _ _ _ c1 (by rw [hA.1.1.1.1]; decide) 0 (by decide)).trans hA.2⟩
theorem Ac_as (a0 : Int32) (a1 : Int32) (a2 : Int32) {L : Nat} {xs : Nat → Int32} {h : XH} (hA : INVa L xs h) : ∃ (v : Int32) (h1 : XH), XCall xM 11 85 [.ref 13, .int a0, .int a1, .int a2] h (some (.int v)) h1 ∧ INVa L xs h1 := by
  obtain ⟨v, h1, c1, i1⟩ := Gc_as a0 a1 a2 hA.1
  exact ⟨v, h1, c1, i1, (XCall.ext _ _ _ _ _ _ c1 (by rw [hA.1.1.1.1]; decide) 0 (by decide)).trans hA.2⟩
theorem Am_as (a0 : Int32) (a1 : Int32) (a2 : Int32) {L : Nat} {xs : Nat → Int32} {h : XH} (hA : INVa L xs h) : ∃ (v : Int32) (h1 : XH), XCall xM 11 179 [.ref 536, .int a0, .int a1, .int a2] h (some (.int v)) h1 ∧ INVa L xs h1 := by
  obtain ⟨v, h1, c1, i1⟩ := Gm_as a0 a1 a2 hA.1
  exact ⟨v, h1, c1, i1, (XCall.ext _ _ _ _ _ _ c1 (by rw [hA.1.1.1.1]; decide) 0 (by decide)).trans hA.2⟩
theorem A_image  {L : Nat} {xs : Nat → Int32} {h : XH} (hA : INVa L xs h) : ∃ (v : Int32) (h1 h2 : XH), XCall xM 11 86 [.ref 13] h (some (.int v)) h1 ∧ AInv w_W h1 ∧ h1.2.2 1 = h.2.2 1 ∧ XCall xM 11 180 [.ref 536] h1 (some (.int v)) h2 ∧ INVa L xs h2 := by
  obtain ⟨v, h1, h2, c1, i1, q1, c2, i2⟩ := G_image  hA.1
  exact ⟨v, h1, h2, c1, i1, q1, c2, i2, (XCall.ext _ _ _ _ _ _ c2 (by rw [i1.1]; decide) 0 (by decide)).trans ((XCall.ext _ _ _ _ _ _ c1 (by rw [hA.1.1.1.1]; decide) 0 (by decide)).trans hA.2)⟩
theorem A_undo  {L : Nat} {xs : Nat → Int32} {h : XH} (hA : INVa L xs h) : ∃ (v : Int32) (h1 h2 : XH), XCall xM 11 87 [.ref 13] h (some (.int v)) h1 ∧ AInv w_W h1 ∧ h1.2.2 1 = h.2.2 1 ∧ XCall xM 11 181 [.ref 536] h1 (some (.int v)) h2 ∧ INVa L xs h2 := by
  obtain ⟨v, h1, h2, c1, i1, q1, c2, i2⟩ := G_undo  hA.1
  exact ⟨v, h1, h2, c1, i1, q1, c2, i2, (XCall.ext _ _ _ _ _ _ c2 (by rw [i1.1]; decide) 0 (by decide)).trans ((XCall.ext _ _ _ _ _ _ c1 (by rw [hA.1.1.1.1]; decide) 0 (by decide)).trans hA.2)⟩
theorem Ac_count (a0 : Int32) {L : Nat} {xs : Nat → Int32} {h : XH} (hA : INVa L xs h) : ∃ (v : Int32) (h1 : XH), XCall xM 11 88 [.ref 13, .int a0] h (some (.int v)) h1 ∧ INVa L xs h1 := by
  obtain ⟨v, h1, c1, i1⟩ := Gc_count a0 hA.1
  exact ⟨v, h1, c1, i1, (XCall.ext _ _ _ _ _ _ c1 (by rw [hA.1.1.1.1]; decide) 0 (by decide)).trans hA.2⟩
theorem Am_count (a0 : Int32) {L : Nat} {xs : Nat → Int32} {h : XH} (hA : INVa L xs h) : ∃ (v : Int32) (h1 : XH), XCall xM 11 182 [.ref 536, .int a0] h (some (.int v)) h1 ∧ INVa L xs h1 := by
  obtain ⟨v, h1, c1, i1⟩ := Gm_count a0 hA.1
  exact ⟨v, h1, c1, i1, (XCall.ext _ _ _ _ _ _ c1 (by rw [hA.1.1.1.1]; decide) 0 (by decide)).trans hA.2⟩
