/-! a call has one outcome -/
theorem xst_xhp {ins : Instr} {a b pc : Nat} {L : XL} {st : List Value} {h : XH} {o : XO} {p : Nat × List Value × XH} (h1 : xst ins a b pc L st h = some o) (h2 : xhp ins a b st h = some p) : False := by
  unfold xhp at h2
  split at h2
  all_goals first
    | (exact absurd h1 (by intro q; cases q; done))
    | (cases h2; done)
def xinc : List XRow → Bool
  | [] => true
  | r :: t => (t.all fun z => Nat.blt r.1 z.1) && xinc t
theorem xinc_one : ∀ {T : List XRow}, xinc T = true → ∀ {r q : XRow}, r ∈ T → q ∈ T → r.1 = q.1 → r = q
  | [], _, _, _, hr, _, _ => by cases hr
  | z :: T, h, r, q, hr, hq, e => by
    unfold xinc at h
    rw [Bool.and_eq_true] at h
    have lt : ∀ y ∈ T, z.1 < y.1 := fun y hy => Nat.le_of_ble_eq_true (List.all_eq_true.mp h.1 y hy)
    rcases List.mem_cons.mp hr with e1 | hr2
    · rcases List.mem_cons.mp hq with e2 | hq2
      · rw [e1, e2]
      · have := lt q hq2
        rw [e1] at e
        omega
    · rcases List.mem_cons.mp hq with e2 | hq2
      · have := lt r hr2
        rw [e2] at e
        omega
      · exact xinc_one h.2 hr2 hq2 e
theorem xMs_inc : (xMs.all fun M => xinc (xmT M)) = true := by decide +kernel
theorem xM_inc {i : Nat} {M : XMeth} (hm : xM i = some M) : xinc (xmT M) = true := List.all_eq_true.mp xMs_inc M (List.mem_of_getElem? hm)
theorem inv_st {ins : Instr} {k a b pc : Nat} {L : XL} {st : List Value} {h : XH} {o : XO} {M1 : XMeth} (hi : xinv ins k = true) (hM : xM a = some M1) (h1 : xst ins a b pc L st h = some o) : False := by
  unfold xinv at hi
  split at hi
  · cases h1
  · cases h1
  · have h1 : (if a = 999 then _ else none) = some o := h1
    split at h1
    · rename_i e
      rw [e] at hM
      have : xM 999 = none := by decide +kernel
      rw [this] at hM
      cases hM
    · cases h1
  · cases hi
theorem inv_hp {ins : Instr} {k a b : Nat} {st : List Value} {h : XH} {p : Nat × List Value × XH} {M1 : XMeth} (hi : xinv ins k = true) (hM : xM a = some M1) (h1 : xhp ins a b st h = some p) : False := by
  unfold xinv at hi
  split at hi
  · have h1 : (if a = 998 then _ else if a = 996 then _ else none) = some p := h1
    split at h1
    · rename_i e
      rw [e] at hM
      have : xM 998 = none := by decide +kernel
      rw [this] at hM
      cases hM
    · split at h1
      · rename_i e
        rw [e] at hM
        have : xM 996 = none := by decide +kernel
        rw [this] at hM
        cases hM
      · cases h1
  · cases h1
  · cases h1
  · cases hi
theorem rev_app {as bs r1 r2 : List Value} (hl : as.length = bs.length) (h : as.reverse ++ r1 = bs.reverse ++ r2) : as = bs ∧ r1 = r2 := by
  obtain ⟨a, b⟩ := List.append_inj h (by simp [hl])
  exact ⟨List.reverse_inj.mp a, b⟩
abbrev cdet (call : XCl) : Prop := ∀ i as h v h1 v' h1', call i as h v h1 → call i as h v' h1' → v = v' ∧ h1 = h1'
theorem XStep.det {call : XCl} (hc : cdet call) {M : XMeth} (hT : xinc (xmT M) = true) {c c1 c2 : XC} (a : XStep xM call M c c1) (b : XStep xM call M c c2) : c1 = c2 := by
  obtain ⟨r, hr, er, ha⟩ := a
  obtain ⟨q, hq, eq, hb⟩ := b
  have e := xinc_one hT hr hq (er.trans eq.symm)
  subst e
  rcases ha with ⟨o, o1, rfl⟩ | ⟨o, o1, rfl⟩ | ⟨M1, as, rest, v, h1, m1, m2, m3, m4, -, -, m5, rfl⟩
  · rcases hb with ⟨p, p1, rfl⟩ | ⟨p, p1, rfl⟩ | ⟨M2, bs, rest2, v2, h2, n1, n2, n3, n4, -, -, n5, rfl⟩
    · rw [o1] at p1; cases p1; rfl
    · exact (xst_xhp o1 p1).elim
    · exact (inv_st n2 n1 o1).elim
  · rcases hb with ⟨p, p1, rfl⟩ | ⟨p, p1, rfl⟩ | ⟨M2, bs, rest2, v2, h2, n1, n2, n3, n4, -, -, n5, rfl⟩
    · exact (xst_xhp p1 o1).elim
    · rw [o1] at p1; cases p1; rfl
    · exact (inv_hp n2 n1 o1).elim
  · rcases hb with ⟨p, p1, rfl⟩ | ⟨p, p1, rfl⟩ | ⟨M2, bs, rest2, v2, h2, n1, n2, n3, n4, -, -, n5, rfl⟩
    · exact (inv_st m2 m1 p1).elim
    · exact (inv_hp m2 m1 p1).elim
    · rw [m1] at n1
      cases n1
      obtain ⟨e1, e2⟩ := rev_app (m4.trans n4.symm) (m3.symm.trans n3)
      subst e1
      subst e2
      obtain ⟨e3, e4⟩ := hc _ _ _ _ _ _ _ m5 n5
      subst e3
      subst e4
      rfl
theorem ret_st {M : XMeth} (hT : xinc (xmT M) = true) {call : XCl} {c c1 : XC} {v : Option Value} (a : XRet M c v) (b : XStep xM call M c c1) : False := by
  obtain ⟨r, hr, er, ha⟩ := a
  obtain ⟨q, hq, eq, hb⟩ := b
  have e := xinc_one hT hr hq (er.trans eq.symm)
  subst e
  obtain ⟨rp, ins, len, a1, b1, w1⟩ := r
  dsimp only at ha hb
  rcases ha with ⟨rfl, -⟩ | ⟨rfl, -⟩ | ⟨rfl, -⟩ | ⟨rfl, -⟩
  all_goals
    rcases hb with ⟨o, o1, -⟩ | ⟨o, o1, -⟩ | ⟨M1, as, rest, v, h1, m1, m2, -⟩
    · cases o1
    · cases o1
    · cases m2
theorem XRet.det {M : XMeth} (hT : xinc (xmT M) = true) {c : XC} {v w : Option Value} (a : XRet M c v) (b : XRet M c w) : v = w := by
  obtain ⟨r, hr, er, ha⟩ := a
  obtain ⟨q, hq, eq, hb⟩ := b
  have e := xinc_one hT hr hq (er.trans eq.symm)
  subst e
  rcases ha with ⟨i1, x, ty, s1, rfl, -⟩ | ⟨i1, x, s1, rfl, -⟩ | ⟨i1, x, n, s1, rfl, -⟩ | ⟨i1, s1, rfl, -⟩ <;> rcases hb with ⟨i2, y, ty2, s2, rfl, -⟩ | ⟨i2, y, s2, rfl, -⟩ | ⟨i2, y, n2, s2, rfl, -⟩ | ⟨i2, s2, rfl, -⟩ <;> first
    | (rw [i1] at i2; cases i2; done)
    | (rw [s1] at s2; cases s2; rfl)
    | rfl
theorem XRuns.det {call : XCl} (hc : cdet call) {M : XMeth} (hT : xinc (xmT M) = true) {v w : Option Value} : ∀ (n : Nat) {k : Nat} {c c1 c2 : XC}, XRuns xM call M n c c1 → XRuns xM call M k c c2 → XRet M c1 v → XRet M c2 w → c1 = c2
  | 0, 0, c, c1, c2, a, b, _, _ => by
    cases a
    cases b
    rfl
  | 0, k + 1, c, c1, c2, a, b, ra, _ => by
    cases a
    obtain ⟨c3, b1, -⟩ := b
    exact (ret_st hT ra b1).elim
  | n + 1, 0, c, c1, c2, a, b, _, rb => by
    cases b
    obtain ⟨c3, a1, -⟩ := a
    exact (ret_st hT rb a1).elim
  | n + 1, k + 1, c, c1, c2, a, b, ra, rb => by
    obtain ⟨c3, a1, a2⟩ := a
    obtain ⟨c4, b1, b2⟩ := b
    have e := a1.det hc hT b1
    subst e
    exact XRuns.det hc hT n a2 b2 ra rb
theorem XCall.det0 : ∀ d : Nat, cdet (XCall xM d)
  | 0 => fun _ _ _ _ _ _ _ h => h.elim
  | d + 1 => fun i as h v h1 v' h1' a b => by
    obtain ⟨M, n, c, m1, -, r1, t1, rfl⟩ := a
    obtain ⟨M2, k, c2, m2, -, r2, t2, rfl⟩ := b
    rw [m1] at m2
    cases m2
    have e := XRuns.det (XCall.det0 d) (xM_inc m1) n r1 r2 t1 t2
    subst e
    exact ⟨t1.det (xM_inc m1) t2, rfl⟩
/-- A CALL HAS ONE OUTCOME -/
theorem XCall.det {d e i : Nat} {as : List Value} {h h1 h2 : XH} {v w : Option Value} (a : XCall xM d i as h v h1) (b : XCall xM e i as h w h2) : v = w ∧ h1 = h2 := XCall.det0 (max d e) _ _ _ _ _ _ _ (XCall.up (Nat.le_max_left _ _) a) (XCall.up (Nat.le_max_right _ _) b)
