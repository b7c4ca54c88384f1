/-! persons and maybes of both sides, as a whole -/
/-- the world W (its rows A..E) and the row P hold the same persons and maybes -/
def WR (h : XH) (W A B C D E P : Nat) : Prop := ∃ n m : Nat, n ≤ 8 ∧ m ≤ 6 ∧ rd h W 0 = some (.int (nI n)) ∧ rd h P 0 = some (.int (nI n)) ∧ rd h W 3 = some (.int (nI m)) ∧ rd h P 1 = some (.int (nI m)) ∧ (∀ i, i < n → rd h A i = rd h P (90 + i)) ∧ (∀ i, i < n → rd h B i = rd h P (100 + i)) ∧ (∀ i, i < m → rd h C i = rd h P (110 + i)) ∧ (∀ i, i < m → rd h D i = rd h P (116 + i)) ∧ ∀ i, i < m → rd h E i = rd h P (122 + i)
def relw (h : XH) : Prop := WR h 14 15 16 17 18 19 537 ∧ WR h 42 43 44 45 46 47 538 ∧ KW h ∧ ∃ x : Int32, rd h 13 2 = some (.int x) ∧ rd h 536 3 = some (.int x)
def INVw (L : Nat) (xs : Nat → Int32) (h : XH) : Prop := AInv w_W h ∧ PInv w_W w_P h [] ∧ PInv w_W (67, w_P.2) h [] ∧ relw h ∧ h.2.2 1 = .inr (.inl (0, L, xs))
theorem WR.fr {h h1 : XH} {W A B C D E P W' A' B' C' D' E' P' : Nat} (k : WR h W A B C D E P) (e0 : rd h1 W' 0 = rd h W 0) (e3 : rd h1 W' 3 = rd h W 3) (p0 : rd h1 P' 0 = rd h P 0) (p1 : rd h1 P' 1 = rd h P 1) (eA : ∀ i, i < 8 → rd h1 A' i = rd h A i) (eB : ∀ i, i < 8 → rd h1 B' i = rd h B i) (eC : ∀ i, i < 6 → rd h1 C' i = rd h C i) (eD : ∀ i, i < 6 → rd h1 D' i = rd h D i) (eE : ∀ i, i < 6 → rd h1 E' i = rd h E i) (pp : ∀ j, 90 ≤ j → j < 128 → rd h1 P' j = rd h P j) : WR h1 W' A' B' C' D' E' P' := by
  obtain ⟨n, m, hn, hm, a0, a1, a2, a3, b1, b2, b3, b4, b5⟩ := k
  exact ⟨n, m, hn, hm, e0.trans a0, p0.trans a1, e3.trans a2, p1.trans a3, fun i hi => (eA i (by omega)).trans ((b1 i hi).trans (pp _ (by omega) (by omega)).symm), fun i hi => (eB i (by omega)).trans ((b2 i hi).trans (pp _ (by omega) (by omega)).symm), fun i hi => (eC i (by omega)).trans ((b3 i hi).trans (pp _ (by omega) (by omega)).symm), fun i hi => (eD i (by omega)).trans ((b4 i hi).trans (pp _ (by omega) (by omega)).symm), fun i hi => (eE i (by omega)).trans ((b5 i hi).trans (pp _ (by omega) (by omega)).symm)⟩
def vsafe (ws : AWr) : Bool := !ahit ws 14 0 && (!ahit ws 14 3 && (!ahit ws 66 0 && (!ahit ws 66 1 && (!ahit ws 27 0 && (!ahit ws 27 3 && (!(ws.any fun w => Nat.beq w.1 67) && (!ahit ws 13 2 && (!ahit ws 65 3 && (((List.range 8).all fun i => !ahit ws 15 ((i : Nat) : Int) && (!ahit ws 16 ((i : Nat) : Int) && (!ahit ws 28 ((i : Nat) : Int) && !ahit ws 29 ((i : Nat) : Int)))) && (((List.range 6).all fun i => !ahit ws 17 ((i : Nat) : Int) && (!ahit ws 18 ((i : Nat) : Int) && (!ahit ws 19 ((i : Nat) : Int) && (!ahit ws 30 ((i : Nat) : Int) && (!ahit ws 31 ((i : Nat) : Int) && !ahit ws 32 ((i : Nat) : Int)))))) && (List.range 38).all fun i => !ahit ws 66 ((90 + i : Nat) : Int)))))))))))
theorem invw_fr {L : Nat} {xs : Nat → Int32} {ws : AWr} {h h1 : XH} (hI : INVw L xs h) (h2 : AInv w_W h1) (h3 : PInv w_W w_P h1 []) (hF : AFr w_W ws h h1) (hs : vsafe ws = true) (he : h1.2.2 1 = h.2.2 1) : INVw L xs h1 := by
  unfold vsafe at hs
  simp only [Bool.and_eq_true, Bool.not_eq_true', List.all_eq_true, List.mem_range] at hs
  obtain ⟨s1, s2, s3, s4, s5, s6, s7, s8, s9, t1, t2, t3⟩ := hs
  obtain ⟨-, -, p2, ⟨r1, r2, rK, x, r5, r6⟩, hsc⟩ := hI
  have s7' := w67 (ws := ws) (by rw [s7]; rfl)
  refine ⟨h2, h3, PInv.o67 hF s7' p2, ⟨r1.fr ?_ ?_ ?_ ?_ (fun i hi => ?_) (fun i hi => ?_) (fun i hi => ?_) (fun i hi => ?_) (fun i hi => ?_) (fun j hj hj2 => ?_), r2.fr ?_ ?_ (rd538 hF s7' 0) (rd538 hF s7' 1) (fun i hi => ?_) (fun i hi => ?_) (fun i hi => ?_) (fun i hi => ?_) (fun i hi => ?_) (fun j hj hj2 => rd538 hF s7' j), rK.fr (rdF (b := 0) w_rg_42 (by decide) hF s5) (fun i hi => rdF (b := i) w_rg_43 (by decide) hF (t1 i hi).2.2.1) (rdF (b := 3) w_rg_42 (by decide) hF s6) (fun i hi => rdF (b := i) w_rg_45 (by decide) hF (t2 i hi).2.2.2.1) (fun i hi => rdF (b := i) w_rg_46 (by decide) hF (t2 i hi).2.2.2.2.1) (fun i hi => rdF (b := i) w_rg_47 (by decide) hF (t2 i hi).2.2.2.2.2), x, ?_, ?_⟩, he.trans hsc⟩
  · exact rdF (b := 0) w_rg_14 (by decide) hF s1
  · exact rdF (b := 3) w_rg_14 (by decide) hF s2
  · exact rdF (b := 0) w_rg_537 (by decide) hF s3
  · exact rdF (b := 1) w_rg_537 (by decide) hF s4
  · exact rdF (b := i) w_rg_15 (by decide) hF (t1 i hi).1
  · exact rdF (b := i) w_rg_16 (by decide) hF (t1 i hi).2.1
  · exact rdF (b := i) w_rg_17 (by decide) hF (t2 i hi).1
  · exact rdF (b := i) w_rg_18 (by decide) hF (t2 i hi).2.1
  · exact rdF (b := i) w_rg_19 (by decide) hF (t2 i hi).2.2.1
  · have k := t3 (j - 90) (by omega)
    rw [show 90 + (j - 90) = j by omega] at k
    exact rdF (b := j) w_rg_537 (by decide) hF k
  · exact rdF (b := 0) w_rg_42 (by decide) hF s5
  · exact rdF (b := 3) w_rg_42 (by decide) hF s6
  · exact rdF (b := i) w_rg_43 (by decide) hF (t1 i hi).2.2.1
  · exact rdF (b := i) w_rg_44 (by decide) hF (t1 i hi).2.2.2
  · exact rdF (b := i) w_rg_45 (by decide) hF (t2 i hi).2.2.2.1
  · exact rdF (b := i) w_rg_46 (by decide) hF (t2 i hi).2.2.2.2.1
  · exact rdF (b := i) w_rg_47 (by decide) hF (t2 i hi).2.2.2.2.2
  · exact (rdF (b := 2) w_rg_13 (by decide) hF s8).trans r5
  · exact (rdF (b := 3) w_rg_536 (by decide) hF s9).trans r6
theorem V_one {c : ACt} (hc : AHp w_W w_P c) (hs : vsafe c.1.2.2.2.1 = true) (ho : aints c.1.2.2.1 = true) (hm : c.2.1 = []) (hd : c.1.2.2.2.2 ≤ 11) {as : List Value} (ha : gal w_W c.1.2.1 as) {L : Nat} {xs : Nat → Int32} {h : XH} (hI : INVw L xs h) : ∃ (v : Int32) (h1 : XH), XCall xM 11 c.1.1 as h (some (.int v)) h1 ∧ INVw L xs h1 := by
  obtain ⟨v, h1, k1, k2, k3, k4, o, ho2, o1, -, -⟩ := hc.2 as h hI.1 hI.2.1 ha (by rw [hm]; exact fun q hq => by cases hq)
  obtain ⟨x, rfl⟩ := aints_ok ho ho2 o1
  have e := XCall.ext _ _ _ _ _ _ k1 (by rw [hI.1.1]; decide) 1 (by decide)
  exact ⟨x, h1, XCall.up hd k1, invw_fr hI k2 k3 k4 hs e⟩
theorem INVw.both {L : Nat} {xs : Nat → Int32} {h : XH} (hI : INVw L xs h) : both0 h := ⟨hI.1, hI.2.1, hI.2.2.1, hI.2.2.2.1.2.2.2⟩
theorem V_image {L : Nat} {xs : Nat → Int32} {h : XH} (hI : INVw L xs h) : ∃ (v : Int32) (h1 h2 : XH), XCall xM 11 86 [.ref 13] h (some (.int v)) h1 ∧ AInv w_W h1 ∧ h1.2.2 1 = h.2.2 1 ∧ XCall xM 11 180 [.ref 536] h1 (some (.int v)) h2 ∧ INVw L xs h2 := by
  obtain ⟨i1, i2, i3, ⟨r1, r2, -⟩, hsc⟩ := id hI
  obtain ⟨n, m, hn, hm, a0, a1, -⟩ := id r1
  obtain ⟨h1, h2, c1, j1, x1, c2, x2, ⟨k1, k2, k3, kx⟩, q14, q15, q16, q17, q18, q19, q537, q0, q3, q43, q44, q45, q46, q47, q538⟩ := both_image hI.both a0 a1
  exact ⟨_, h1, h2, c1, j1, x1, c2, k1, k2, k3, ⟨r1.fr (q14 0) (q14 3) (q537 0) (q537 1) (fun i _ => q15 i) (fun i _ => q16 i) (fun i _ => q17 i) (fun i _ => q18 i) (fun i _ => q19 i) (fun j _ _ => q537 j), r1.fr q0 q3 (q538 0 (by decide)) (q538 1 (by decide)) q43 q44 q45 q46 q47 (fun j _ hj => q538 j (by omega)), kw_copy (i2.2 rfl).2.1 q0 q43 q3 q45 q46 q47, kx⟩, x2.trans hsc⟩
theorem V_undo {L : Nat} {xs : Nat → Int32} {h : XH} (hI : INVw L xs h) : ∃ (v : Int32) (h1 h2 : XH), XCall xM 11 87 [.ref 13] h (some (.int v)) h1 ∧ AInv w_W h1 ∧ h1.2.2 1 = h.2.2 1 ∧ XCall xM 11 181 [.ref 536] h1 (some (.int v)) h2 ∧ INVw L xs h2 := by
  obtain ⟨i1, i2, i3, ⟨r1, r2, rK, -⟩, hsc⟩ := id hI
  obtain ⟨n, m, hn, hm, a0, a1, -⟩ := id r2
  obtain ⟨v, h1, h2, c1, j1, x1, c2, x2, e | ⟨⟨k1, k2, k3, kx⟩, q14, q15, q16, q17, q18, q19, q537, q0, q3, q43, q44, q45, q46, q47, q538⟩⟩ := both_undo hI.both rK a0 a1
  · subst e
    exact ⟨v, h1, h2, c1, j1, x1, c2, hI⟩
  · exact ⟨_, h1, h2, c1, j1, x1, c2, k1, k2, k3, ⟨r2.fr q0 q3 (q538 0 (by decide)) (q538 1 (by decide)) q43 q44 q45 q46 q47 (fun j _ hj => q538 j (by omega)), r2.fr (q14 0) (q14 3) (q537 0) (q537 1) (fun i _ => q15 i) (fun i _ => q16 i) (fun i _ => q17 i) (fun i _ => q18 i) (fun i _ => q19 i) (fun j _ _ => q537 j), rK.fr (q14 0) (fun i _ => q15 i) (q14 3) (fun i _ => q17 i) (fun i _ => q18 i) (fun i _ => q19 i), kx⟩, x2.trans hsc⟩
theorem KW.kept {h h2 : XH} {ws : AWr} (k : KW h) (hF : AFr w_W ws h h2) (hs : (ws.all fun w => !(Nat.beq w.1 27) && (!(Nat.beq w.1 28) && (!(Nat.beq w.1 30) && (!(Nat.beq w.1 31) && !(Nat.beq w.1 32))))) = true) : KW h2 := by
  have key : ∀ {k r : Nat}, k < 549 → w_rg k = r → (∀ w ∈ ws, ¬ w.1 = r) → ∀ b, rd h2 k b = rd h k b := fun {k r} hk hr hw b => hF k b hk fun w hw2 hc => hw w hw2 (hc.1.trans ((w_W1 k).trans hr))
  have no : ∀ w ∈ ws, ¬ w.1 = 27 ∧ ¬ w.1 = 30 ∧ ¬ w.1 = 31 ∧ ¬ w.1 = 32 ∧ ¬ w.1 = 28 := fun w hw => by
    have k := List.all_eq_true.mp hs w hw
    simp only [Bool.and_eq_true, Bool.not_eq_true'] at k
    obtain ⟨k1, k5, k2, k3, k4⟩ := k
    exact ⟨Nat.ne_of_beq_eq_false k1, Nat.ne_of_beq_eq_false k2, Nat.ne_of_beq_eq_false k3, Nat.ne_of_beq_eq_false k4, Nat.ne_of_beq_eq_false k5⟩
  exact k.fr (key (by decide) w_rg_42 (fun w hw => (no w hw).1) 0) (fun i _ => key (by decide) w_rg_43 (fun w hw => (no w hw).2.2.2.2) i) (key (by decide) w_rg_42 (fun w hw => (no w hw).1) 3) (fun i _ => key (by decide) w_rg_45 (fun w hw => (no w hw).2.1) i) (fun i _ => key (by decide) w_rg_46 (fun w hw => (no w hw).2.2.1) i) (fun i _ => key (by decide) w_rg_47 (fun w hw => (no w hw).2.2.2.1) i)
/-- what a person's and a maybe's writing leaves of the image -/
theorem WR.kept {h h2 : XH} {ws : AWr} (r2 : WR h 42 43 44 45 46 47 538) (hF : AFr w_W ws h h2) (hs : (ws.all fun w => !(Nat.beq w.1 27) && (!(Nat.beq w.1 28) && (!(Nat.beq w.1 29) && (!(Nat.beq w.1 30) && (!(Nat.beq w.1 31) && (!(Nat.beq w.1 32) && !(Nat.beq w.1 67))))))) = true) : WR h2 42 43 44 45 46 47 538 := by
  have key : ∀ {k r : Nat}, k < 549 → w_rg k = r → (∀ w ∈ ws, ¬ w.1 = r) → ∀ b, rd h2 k b = rd h k b := fun {k r} hk hr hw b => hF k b hk fun w hw2 hc => hw w hw2 (hc.1.trans ((w_W1 k).trans hr))
  have no : ∀ w ∈ ws, ¬ w.1 = 27 ∧ ¬ w.1 = 28 ∧ ¬ w.1 = 29 ∧ ¬ w.1 = 30 ∧ ¬ w.1 = 31 ∧ ¬ w.1 = 32 ∧ ¬ w.1 = 67 := fun w hw => by
    have k := List.all_eq_true.mp hs w hw
    simp only [Bool.and_eq_true, Bool.not_eq_true'] at k
    obtain ⟨k1, k2, k3, k4, k5, k6, k7⟩ := k
    exact ⟨Nat.ne_of_beq_eq_false k1, Nat.ne_of_beq_eq_false k2, Nat.ne_of_beq_eq_false k3, Nat.ne_of_beq_eq_false k4, Nat.ne_of_beq_eq_false k5, Nat.ne_of_beq_eq_false k6, Nat.ne_of_beq_eq_false k7⟩
  exact r2.fr (key (by decide) w_rg_42 (fun w hw => (no w hw).1) 0) (key (by decide) w_rg_42 (fun w hw => (no w hw).1) 3) (key (by decide) w_rg_538 (fun w hw => (no w hw).2.2.2.2.2.2) 0) (key (by decide) w_rg_538 (fun w hw => (no w hw).2.2.2.2.2.2) 1) (fun i _ => key (by decide) w_rg_43 (fun w hw => (no w hw).2.1) i) (fun i _ => key (by decide) w_rg_44 (fun w hw => (no w hw).2.2.1) i) (fun i _ => key (by decide) w_rg_45 (fun w hw => (no w hw).2.2.2.1) i) (fun i _ => key (by decide) w_rg_46 (fun w hw => (no w hw).2.2.2.2.1) i) (fun i _ => key (by decide) w_rg_47 (fun w hw => (no w hw).2.2.2.2.2.1) i) (fun j _ _ => key (by decide) w_rg_538 (fun w hw => (no w hw).2.2.2.2.2.2) j)
/-- cells of the row that a person's writing leaves -/
theorem pw_537 {h h2 : XH} (hF : AFr w_W pw_b h h2) {j : Nat} (hj : 108 ≤ j) : rd h2 537 j = rd h 537 j := hF 537 j (by decide) fun w hw hc => by
  have e : (w_W.1 537 : Nat) = 66 := (w_W1 537).trans w_rg_537
  rw [e] at hc
  simp only [pw_b, List.mem_cons, List.not_mem_nil, or_false] at hw
  rcases hw with rfl | rfl | rfl | rfl | rfl | rfl | rfl <;> (obtain ⟨c1, c2, c3⟩ := hc; dsimp only at c1 c2 c3; omega)
theorem mw_537 {h h2 : XH} (hF : AFr w_W mw_b h h2) {j : Nat} (hj : 90 ≤ j) (hj2 : j < 110) : rd h2 537 j = rd h 537 j := hF 537 j (by decide) fun w hw hc => by
  have e : (w_W.1 537 : Nat) = 66 := (w_W1 537).trans w_rg_537
  rw [e] at hc
  simp only [mw_b, List.mem_cons, List.not_mem_nil, or_false] at hw
  rcases hw with rfl | rfl | rfl | rfl | rfl | rfl | rfl | rfl | rfl <;> (obtain ⟨c1, c2, c3⟩ := hc; dsimp only at c1 c2 c3; omega)
theorem V_person (a p : Int32) {L : Nat} {xs : Nat → Int32} {h : XH} (hI : INVw L xs h) : ∃ (v : Int32) (h1 h2 : XH), XCall xM 11 62 [.ref 13, .int a, .int p] h (some (.int v)) h1 ∧ AInv w_W h1 ∧ h1.2.2 1 = h.2.2 1 ∧ XCall xM 11 113 [.ref 536, .int a, .int p] h1 (some (.int v)) h2 ∧ INVw L xs h2 := by
  obtain ⟨i1, i2, i3, ⟨⟨n, m, hn, hm, a0, a1, a2, a3, b1, b2, b3, b4, b5⟩, r2, rK, -⟩, hsc⟩ := id hI
  obtain ⟨v, h1, h2, c1, j1, x1, c2, x2, e | ⟨⟨k1, k2, k3, kx⟩, hn8, kF, q1, q2, q3, q4, q5, q6⟩⟩ := both_person a p hI.both hn a0 a1 b1
  · subst e
    exact ⟨v, h1, h2, c1, j1, x1, c2, hI⟩
  · refine ⟨v, h1, h2, c1, j1, x1, c2, k1, k2, k3, ⟨⟨n + 1, m, by omega, hm, q1, q2, ?_, ?_, fun i hi => ?_, fun i hi => ?_, fun i hi => ?_, fun i hi => ?_, fun i hi => ?_⟩, r2.kept kF (by decide +kernel), rK.kept kF (by decide +kernel), kx⟩, x2.trans hsc⟩
    · exact (rdF (b := 3) w_rg_14 (by decide) kF (by decide)).trans a2
    · exact (rdF (b := 1) w_rg_537 (by decide) kF (by decide)).trans a3
    · rw [q3 i (by omega), q5 i (by omega)]
      by_cases hin : i = n
      · rw [if_pos hin, if_pos hin]
      · rw [if_neg hin, if_neg hin, b1 i (by omega)]
    · rw [q4 i (by omega), q6 i (by omega)]
      by_cases hin : i = n
      · rw [if_pos hin, if_pos hin]
      · rw [if_neg hin, if_neg hin, b2 i (by omega)]
    · exact (rdF (b := i) w_rg_17 (by decide) kF (by unfold ahit pw_b; rfl)).trans ((b3 i hi).trans (pw_537 kF (by omega)).symm)
    · exact (rdF (b := i) w_rg_18 (by decide) kF (by unfold ahit pw_b; rfl)).trans ((b4 i hi).trans (pw_537 kF (by omega)).symm)
    · exact (rdF (b := i) w_rg_19 (by decide) kF (by unfold ahit pw_b; rfl)).trans ((b5 i hi).trans (pw_537 kF (by omega)).symm)
theorem V_maybe (a w y : Int32) {L : Nat} {xs : Nat → Int32} {h : XH} (hI : INVw L xs h) : ∃ (v : Int32) (h1 h2 : XH), XCall xM 11 63 [.ref 13, .int a, .int w, .int y] h (some (.int v)) h1 ∧ AInv w_W h1 ∧ h1.2.2 1 = h.2.2 1 ∧ XCall xM 11 114 [.ref 536, .int a, .int w, .int y] h1 (some (.int v)) h2 ∧ INVw L xs h2 := by
  obtain ⟨i1, i2, i3, ⟨⟨n, m, hn, hm, a0, a1, a2, a3, b1, b2, b3, b4, b5⟩, r2, rK, -⟩, hsc⟩ := id hI
  obtain ⟨v, h1, h2, c1, j1, x1, c2, x2, e | ⟨⟨k1, k2, k3, kx⟩, hm6, kF, q1, q2, q3, q4, q5, q6, q7, q8⟩⟩ := both_maybe a w y hI.both hn hm a0 a1 a2 a3 b3
  · subst e
    exact ⟨v, h1, h2, c1, j1, x1, c2, hI⟩
  · refine ⟨v, h1, h2, c1, j1, x1, c2, k1, k2, k3, ⟨⟨n, m + 1, hn, by omega, ?_, ?_, q1, q2, fun i hi => ?_, fun i hi => ?_, fun i hi => ?_, fun i hi => ?_, fun i hi => ?_⟩, r2.kept kF (by decide +kernel), rK.kept kF (by decide +kernel), kx⟩, x2.trans hsc⟩
    · exact (rdF (b := 0) w_rg_14 (by decide) kF (by decide)).trans a0
    · exact (rdF (b := 0) w_rg_537 (by decide) kF (by decide)).trans a1
    · exact (rdF (b := i) w_rg_15 (by decide) kF (by unfold ahit mw_b; rfl)).trans ((b1 i hi).trans (mw_537 kF (by omega) (by omega)).symm)
    · exact (rdF (b := i) w_rg_16 (by decide) kF (by unfold ahit mw_b; rfl)).trans ((b2 i hi).trans (mw_537 kF (by omega) (by omega)).symm)
    · rw [q3 i (by omega), q6 i (by omega)]
      by_cases hin : i = m
      · rw [if_pos hin, if_pos hin]
      · rw [if_neg hin, if_neg hin, b3 i (by omega)]
    · rw [q4 i (by omega), q7 i (by omega)]
      by_cases hin : i = m
      · rw [if_pos hin, if_pos hin]
      · rw [if_neg hin, if_neg hin, b4 i (by omega)]
    · rw [q5 i (by omega), q8 i (by omega)]
      by_cases hin : i = m
      · rw [if_pos hin, if_pos hin]
      · rw [if_neg hin, if_neg hin, b5 i (by omega)]
theorem INVw_0 (L : Nat) (xs : Nat → Int32) (fl : Bool) : INVw L xs (xh0 (xg L xs fl)) := by
  obtain ⟨a, b, c, -, d⟩ := INV_0 L xs fl
  exact ⟨a, b, c, ⟨⟨0, 0, by decide, by decide, rfl, rfl, rfl, rfl, fun i hi => absurd hi (by omega), fun i hi => absurd hi (by omega), fun i hi => absurd hi (by omega), fun i hi => absurd hi (by omega), fun i hi => absurd hi (by omega)⟩, ⟨0, 0, by decide, by decide, rfl, rfl, rfl, rfl, fun i hi => absurd hi (by omega), fun i hi => absurd hi (by omega), fun i hi => absurd hi (by omega), fun i hi => absurd hi (by omega), fun i hi => absurd hi (by omega)⟩, ⟨0, 0, ⟨by decide, by decide⟩, rfl, rfl, fun k hk => absurd hk (by omega), fun k hk => absurd hk (by omega)⟩, 0, rfl, rfl⟩, d⟩
