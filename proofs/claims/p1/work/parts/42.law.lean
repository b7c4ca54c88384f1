theorem xhp_ext {ins : Instr} {a b : Nat} {st : List Value} {h : XH} {o : Nat × List Value × XH} (hs : xhp ins a b st h = some o) (h2 : 2 ≤ h.1) : ∀ j, j < 2 → o.2.2.2.2 j = h.2.2 j := by
  have key : ∀ (k : Nat) (e : XE), 2 ≤ k → ∀ j, j < 2 → (xup h k e).2.2 j = h.2.2 j := fun k e hk j hj => if_neg (by omega)
  have keyn : ∀ (n : Nat) (e : XE), ∀ j, j < 2 → (xnew h n e).2.2 j = h.2.2 j := fun n e j hj => if_neg (by omega)
  cases ins with
  | putfield idx =>
    simp only [xhp] at hs
    split at hs
    · split at hs
      · split at hs
        · rename_i hc
          have h4 := hc.2.1
          cases hs
          exact key _ _ h4
        · cases hs
      · cases hs
    · cases hs
  | iastore =>
    simp only [xhp] at hs
    split at hs
    · split at hs
      · split at hs
        · rename_i hc
          have h4 := hc.2.1
          cases hs
          exact key _ _ h4
        · cases hs
      · cases hs
    · cases hs
  | bastore =>
    simp only [xhp] at hs
    split at hs
    · split at hs
      · split at hs
        · rename_i hc
          have h4 := hc.2.1
          cases hs
          exact key _ _ h4
        · cases hs
      · cases hs
    · cases hs
  | aastore =>
    simp only [xhp] at hs
    split at hs
    · split at hs
      · split at hs
        · rename_i hc
          have h4 := hc.2.1
          cases hs
          exact key _ _ h4
        · cases hs
      · cases hs
    · cases hs
  | new idx => cases hs; exact keyn _ _
  | newarray ty =>
    simp only [xhp] at hs
    split at hs
    · split at hs
      · cases hs
        exact keyn _ _
      · cases hs
    · cases hs
  | anewarray idx =>
    simp only [xhp] at hs
    split at hs
    · split at hs
      · cases hs
        exact keyn _ _
      · cases hs
    · cases hs
  | invokestatic idx =>
    simp only [xhp] at hs
    split at hs
    · split at hs
      · split at hs
        · split at hs
          · rename_i hc
            have h4 := hc.2.1
            cases hs
            exact key _ _ h4
          · cases hs
        · cases hs
      · cases hs
    · split at hs
      · split at hs
        · split at hs
          · cases hs
            exact fun _ _ => rfl
          · cases hs
        · cases hs
      · cases hs
  | _ => simp [xhp] at hs
theorem XStep.ext {call : XCl} {M : XMeth} {c c1 : XC} (hc : ∀ i as h v h1, call i as h v h1 → 2 ≤ h.1 → ∀ j, j < 2 → h1.2.2 j = h.2.2 j) (h : XStep xM call M c c1) (h2 : 2 ≤ c.2.2.2.1) : ∀ j, j < 2 → c1.2.2.2.2.2 j = c.2.2.2.2.2 j := by
  obtain ⟨r, -, -, ⟨o, -, rfl⟩ | ⟨o, h1, rfl⟩ | ⟨M1, as, rest, v, h1, -, -, -, -, -, -, h3, rfl⟩⟩ := h
  · exact fun _ _ => rfl
  · exact xhp_ext h1 h2
  · exact hc _ _ _ _ _ h3 h2
theorem XRuns.ext {d : Nat} {M : XMeth} (hc : ∀ i as h v h1, XCall xM d i as h v h1 → 2 ≤ h.1 → ∀ j, j < 2 → h1.2.2 j = h.2.2 j) : ∀ (n : Nat) {c c1 : XC}, XRuns xM (XCall xM d) M n c c1 → 2 ≤ c.2.2.2.1 → ∀ j, j < 2 → c1.2.2.2.2.2 j = c.2.2.2.2.2 j
  | 0, c, c1, h, h2 => by cases h; exact fun _ _ => rfl
  | n + 1, c, c1, h, h2 => by
    obtain ⟨c2, h1, h3⟩ := h
    intro j hj
    exact (XRuns.ext hc n h3 (Nat.le_trans h2 (h1.mono (XCall.mono d)).1) j hj).trans (h1.ext hc h2 j hj)
theorem XCall.ext : ∀ (d i : Nat) (as : List Value) (h : XH) (v : Option Value) (h1 : XH), XCall xM d i as h v h1 → 2 ≤ h.1 → ∀ j, j < 2 → h1.2.2 j = h.2.2 j
  | 0, _, _, _, _, _, h => False.elim h
  | d + 1, i, as, h, v, h1, hc => by
    obtain ⟨M, n, c, -, -, hr, -, rfl⟩ := hc
    exact fun h2 => XRuns.ext (XCall.ext d) n hr h2
/-! who makes nothing leaves the heap's length -/
def xnz (r : XRow) : Bool := match r.2.1 with
  | .new _ => false
  | .newarray _ => false
  | .anewarray _ => false
  | .invokespecial _ => r.2.2.2.1 == 999
  | _ => true
theorem xMs_nz : xMs.all (fun M => xmK M == 2 || (xmT M).all xnz) = true := by decide +kernel
theorem xM_999 : xM 999 = none := List.getElem?_eq_none (by decide +kernel)
theorem xhp_siz {r : XRow} {st : List Value} {h : XH} {o : Nat × List Value × XH} (hs : xhp r.2.1 r.2.2.2.1 r.2.2.2.2.1 st h = some o) (hn : xnz r = true) : o.2.2.1 = h.1 ∧ o.2.2.2.1 = h.2.1 := by
  obtain ⟨pc, ins, len, a, b, w⟩ := r
  dsimp only at hs
  unfold xhp at hs
  repeat' split at hs
  all_goals first | (cases hs; done) | (cases hs; first | exact ⟨rfl, rfl⟩ | (simp [xnz] at hn; done))
theorem XStep.siz {call : XCl} {M : XMeth} {c c1 : XC} (hc : ∀ i as h v h1 M1, xM i = some M1 → xmK M1 ≠ 2 → call i as h v h1 → h1.1 = h.1 ∧ h1.2.1 = h.2.1) (hM : (xmT M).all xnz = true) (h : XStep xM call M c c1) : c1.2.2.2.1 = c.2.2.2.1 ∧ c1.2.2.2.2.1 = c.2.2.2.2.1 := by
  obtain ⟨r, hr, -, ⟨o, -, rfl⟩ | ⟨o, h1, rfl⟩ | ⟨M1, as, rest, v, h1, hm, hi, -, -, -, -, h3, rfl⟩⟩ := h
  · exact ⟨rfl, rfl⟩
  · exact xhp_siz h1 (List.all_eq_true.mp hM r hr)
  · refine hc _ _ _ _ _ M1 hm (fun e => ?_) h3
    have hz := List.all_eq_true.mp hM r hr
    obtain ⟨pc, ins, len, a, b, w⟩ := r
    dsimp only at hm hi
    rw [e] at hi
    unfold xinv at hi
    split at hi
    · cases hi
    · cases hi
    · simp only [xnz, beq_iff_eq] at hz
      rw [hz, xM_999] at hm
      cases hm
    · cases hi
theorem XRuns.siz {d : Nat} {M : XMeth} (hc : ∀ i as h v h1 M1, xM i = some M1 → xmK M1 ≠ 2 → XCall xM d i as h v h1 → h1.1 = h.1 ∧ h1.2.1 = h.2.1) (hM : (xmT M).all xnz = true) : ∀ (n : Nat) {c c1 : XC}, XRuns xM (XCall xM d) M n c c1 → c1.2.2.2.1 = c.2.2.2.1 ∧ c1.2.2.2.2.1 = c.2.2.2.2.1
  | 0, c, c1, h => by cases h; exact ⟨rfl, rfl⟩
  | n + 1, c, c1, h => by
    obtain ⟨c2, h1, h3⟩ := h
    have a := h1.siz hc hM
    have b := XRuns.siz hc hM n h3
    exact ⟨b.1.trans a.1, b.2.trans a.2⟩
theorem XCall.siz : ∀ (d i : Nat) (as : List Value) (h : XH) (v : Option Value) (h1 : XH) (M : XMeth), xM i = some M → xmK M ≠ 2 → XCall xM d i as h v h1 → h1.1 = h.1 ∧ h1.2.1 = h.2.1
  | 0, _, _, _, _, _, _, _, _, h => False.elim h
  | d + 1, i, as, h, v, h1, M, hm, hk, hc => by
    obtain ⟨M1, n, c, hm1, -, hr, -, rfl⟩ := hc
    rw [hm] at hm1
    cases hm1
    have hz := List.all_eq_true.mp xMs_nz M (List.mem_of_getElem? hm)
    simp only [Bool.or_eq_true, beq_iff_eq] at hz
    exact XRuns.siz (fun i as h v h1 M1 => XCall.siz d i as h v h1 M1) (hz.resolve_left hk) n hr
def xPL (h : XH) : Prop := h.1 = 538 ∧ h.2.1 = 14048
def xg (f0 xs : Nat → Int32) (L : Nat) : Nat → XE := fun j => if j = 0 then .inr (.inl (0, 7, f0)) else .inr (.inl (0, L, xs))
theorem xP_hm2 {g : Nat → XE} {h : XH} (hp : xP g h) (he : ∀ j, j < 2 → h.2.2 j = g j) : h = xhm (fun j => if j < 2 then g j else h.2.2 j) g := by
  refine Prod.ext hp.1 (Prod.ext hp.2.1 (funext fun j => ?_))
  show h.2.2 j = if j < 525 then (if j < 2 then g j else h.2.2 j) else xe0 g j
  by_cases hj : j < 525
  · rw [if_pos hj]
    by_cases h2 : j < 2
    · rw [if_pos h2, he j h2]
    · rw [if_neg h2]
  · rw [if_neg hj]
    exact hp.2.2 j (by omega)
theorem XGp.alen {d : Nat} {M : XMeth} {pc k n len a b w : Nat} {L : XL} {st : List Value} {h : XH} {v : Option Value} {P : XH → Prop} (hm : xfind (xmT M) pc = some (pc, .arraylength, len, a, b, w)) (hx : xlen h k = some n) (g : XGp d M (pc + 1, L, .int (Int32.ofNat n) :: st, h) v P) : XGp d M (pc, L, .ref k :: st, h) v P := by
  obtain ⟨h1, p, g⟩ := g
  exact ⟨h1, p, XGo.alen hm hx g⟩
set_option maxRecDepth 100000 in
theorem law_tail (d : Nat) (xs : Nat → Int32) (h : XH) (he : h.2.2 1 = .inr (.inl (0, 5, xs))) (hk : 1 < h.1) (hp : xPL h) : XGp d xm_L (1177, [some (.ref 1), some (.ref 2), some (.ref 525), some (.int (Int32.ofInt 0))], [], h) (some (.int 1)) xPL := by
  refine XGp.go 4 rfl ?_
  refine XGp.alen rfl (xlen_i he hk (by decide)) ?_
  refine XGp.go 3 rfl ?_
  refine XGp.ifp (by decide) ?_
  refine XGp.go 1 rfl ?_
  exact XGp.iret _ rfl rfl .boolean rfl rfl rfl hp
/-- behind the two calls: they answered alike -/
theorem law_end {d : Nat} {f0 xs : Nat → Int32} {h1 h3 : XH} {i j : Nat} {as bs : List Value} {v w : Option Value} {d1 d2 : Nat} (M1 M3 : XMeth) (hM1 : xM i = some M1) (hM3 : xM j = some M3) (hk1 : xmK M1 ≠ 2) (hk3 : xmK M3 ≠ 2) (c1 : XCall xM d1 i as (xh0 (xg f0 xs 5)) v h1) (c3 : XCall xM d2 j bs h1 w h3) : XGp d xm_L (1177, [some (.ref 1), some (.ref 2), some (.ref 525), some (.int (Int32.ofInt 0))], [], h3) (some (.int 1)) xPL := by
  have s1 := XCall.siz _ _ _ _ _ _ M1 hM1 hk1 c1
  have s3 := XCall.siz _ _ _ _ _ _ M3 hM3 hk3 c3
  have m1 := XCall.mono _ _ _ _ _ _ c1
  have m3 := XCall.mono _ _ _ _ _ _ c3
  have a1 : 2 ≤ h1.1 := Nat.le_trans (Nat.le_of_ble_eq_true rfl) m1.1
  have e1 := XCall.ext _ _ _ _ _ _ c1 (Nat.le_of_ble_eq_true rfl) 1 (by decide)
  have e3 := XCall.ext _ _ _ _ _ _ c3 a1 1 (by decide)
  exact law_tail d xs h3 (e3.trans (e1.trans rfl)) (Nat.lt_of_lt_of_le (by omega) m3.1) ⟨s3.1.trans s1.1, s3.2.trans s1.2⟩
theorem XGp.callE {d : Nat} {M : XMeth} {pc : Nat} {L : XL} {st : List Value} {h : XH} {v v1 : Option Value} {P Pc : XH → Prop} (as rest : List Value) (r : XRow) (hm : xfind (xmT M) pc = some r) (M1 : XMeth) (hM1 : xM r.2.2.2.1 = some M1) (hi : xinv r.2.1 (xmK M1) = true) (hst : st = as.reverse ++ rest) (hlen : as.length = xmN M1 + (if xmK M1 = 0 then 0 else 1)) (hrecv : xrecv M1 as h) (hcat : (rest.map fun v => v.category).sum ≤ 8)
    (hc : XCp d r.2.2.2.1 as h v1 Pc) (k : ∀ h2, Pc h2 → XCall xM d r.2.2.2.1 as h v1 h2 → XGp d M (pc + 3, L, v1.toList ++ rest, h2) v P) : XGp d M (pc, L, st, h) v P := by
  obtain ⟨h2, p2, g2⟩ := hc
  obtain ⟨h1, p, g⟩ := k h2 p2 g2
  exact ⟨h1, p, XGo.call r hm M1 hM1 hi as rest hst hlen hrecv hcat g2 g⟩
set_option maxRecDepth 100000 in
theorem law_case0 (f0 xs : Nat → Int32) : XGp 11 xm_L (32, [some (.ref 1), some (.ref 2), some (.ref 525), some (.int (Int32.ofInt 0))], [.int 0], xh0 (xg f0 xs 5)) (some (.int 1)) xPL := by
  refine XGp.go 1 rfl ?_
  show XGp 11 xm_L (156, _, _, _) _ _
  refine XGp.go 11 rfl ?_
  refine XGp.callE [.ref 2, .int _, .int _] [] _ rfl xm_X6_person rfl rfl rfl rfl (fun _ => ⟨2, _, rfl, rfl, Nat.le_of_ble_eq_true rfl, Nat.le_of_ble_eq_true rfl⟩) (Nat.le_of_ble_eq_true rfl) (f_c_person 8 (xg f0 xs 5) _ _) (fun h1 p1 c1 => ?_)
  have e1 := xP_hm2 p1 (fun j hj => (XCall.ext _ _ _ _ _ _ c1 (Nat.le_of_ble_eq_true rfl) j hj).trans (if_pos hj))
  generalize hu : h1.2.2 = u at e1
  subst e1
  refine XGp.go 11 rfl ?_
  refine XGp.callE [.ref 525, .int _, .int _] [_] _ rfl xm_X7_person rfl rfl rfl rfl (fun _ => ⟨525, _, rfl, rfl, Nat.le_of_ble_eq_true rfl, Nat.le_of_ble_eq_true rfl⟩) (Nat.le_of_ble_eq_true rfl) (f_m_person 6 _ (xg f0 xs 5) _ _) (fun h3 p3 c3 => ?_)
  refine XGp.go 1 rfl ?_
  refine XGp.ifp (a_person _ _) ?_
  exact law_end xm_X6_person xm_X7_person rfl rfl (by decide) (by decide) c1 c3
set_option maxRecDepth 100000 in
theorem law_case1 (f0 xs : Nat → Int32) : XGp 11 xm_L (32, [some (.ref 1), some (.ref 2), some (.ref 525), some (.int (Int32.ofInt 0))], [.int 1], xh0 (xg f0 xs 5)) (some (.int 1)) xPL := by
  refine XGp.go 1 rfl ?_
  show XGp 11 xm_L (189, _, _, _) _ _
  refine XGp.go 16 rfl ?_
  refine XGp.callE [.ref 2, .int _, .int _, .int _] [] _ rfl xm_X6_maybe rfl rfl rfl rfl (fun _ => ⟨2, _, rfl, rfl, Nat.le_of_ble_eq_true rfl, Nat.le_of_ble_eq_true rfl⟩) (Nat.le_of_ble_eq_true rfl) (f_c_maybe 8 (xg f0 xs 5) _ _ _) (fun h1 p1 c1 => ?_)
  have e1 := xP_hm2 p1 (fun j hj => (XCall.ext _ _ _ _ _ _ c1 (Nat.le_of_ble_eq_true rfl) j hj).trans (if_pos hj))
  generalize hu : h1.2.2 = u at e1
  subst e1
  refine XGp.go 16 rfl ?_
  refine XGp.callE [.ref 525, .int _, .int _, .int _] [_] _ rfl xm_X7_maybe rfl rfl rfl rfl (fun _ => ⟨525, _, rfl, rfl, Nat.le_of_ble_eq_true rfl, Nat.le_of_ble_eq_true rfl⟩) (Nat.le_of_ble_eq_true rfl) (f_m_maybe 6 _ (xg f0 xs 5) _ _ _) (fun h3 p3 c3 => ?_)
  refine XGp.go 1 rfl ?_
  refine XGp.ifp (a_maybe _ _ _) ?_
  exact law_end xm_X6_maybe xm_X7_maybe rfl rfl (by decide) (by decide) c1 c3
set_option maxRecDepth 100000 in
theorem law_case2 (f0 xs : Nat → Int32) : XGp 11 xm_L (32, [some (.ref 1), some (.ref 2), some (.ref 525), some (.int (Int32.ofInt 0))], [.int 2], xh0 (xg f0 xs 5)) (some (.int 1)) xPL := by
  refine XGp.go 1 rfl ?_
  show XGp 11 xm_L (232, _, _, _) _ _
  refine XGp.go 21 rfl ?_
  refine XGp.callE [.ref 2, .int _, .int _, .int _, .int _] [] _ rfl xm_X6_life rfl rfl rfl rfl (fun _ => ⟨2, _, rfl, rfl, Nat.le_of_ble_eq_true rfl, Nat.le_of_ble_eq_true rfl⟩) (Nat.le_of_ble_eq_true rfl) (f_c_life 6 (xg f0 xs 5) _ _ _ _) (fun h1 p1 c1 => ?_)
  have e1 := xP_hm2 p1 (fun j hj => (XCall.ext _ _ _ _ _ _ c1 (Nat.le_of_ble_eq_true rfl) j hj).trans (if_pos hj))
  generalize hu : h1.2.2 = u at e1
  subst e1
  refine XGp.go 21 rfl ?_
  refine XGp.callE [.ref 525, .int _, .int _, .int _, .int _] [_] _ rfl xm_X7_life rfl rfl rfl rfl (fun _ => ⟨525, _, rfl, rfl, Nat.le_of_ble_eq_true rfl, Nat.le_of_ble_eq_true rfl⟩) (Nat.le_of_ble_eq_true rfl) (f_m_life 6 _ (xg f0 xs 5) _ _ _ _) (fun h3 p3 c3 => ?_)
  refine XGp.go 1 rfl ?_
  refine XGp.ifp (rfl) ?_
  exact law_end xm_X6_life xm_X7_life rfl rfl (by decide) (by decide) c1 c3
set_option maxRecDepth 100000 in
theorem law_case3 (f0 xs : Nat → Int32) : XGp 11 xm_L (32, [some (.ref 1), some (.ref 2), some (.ref 525), some (.int (Int32.ofInt 0))], [.int 3], xh0 (xg f0 xs 5)) (some (.int 1)) xPL := by
  refine XGp.go 1 rfl ?_
  show XGp 11 xm_L (285, _, _, _) _ _
  refine XGp.go 23 rfl ?_
  refine XGp.callE [.ref 2, .long _, .int _] [] _ rfl xm_X6_feed rfl rfl rfl rfl (fun _ => ⟨2, _, rfl, rfl, Nat.le_of_ble_eq_true rfl, Nat.le_of_ble_eq_true rfl⟩) (Nat.le_of_ble_eq_true rfl) (f_c_feed 6 (xg f0 xs 5) _ _) (fun h1 p1 c1 => ?_)
  have e1 := xP_hm2 p1 (fun j hj => (XCall.ext _ _ _ _ _ _ c1 (Nat.le_of_ble_eq_true rfl) j hj).trans (if_pos hj))
  generalize hu : h1.2.2 = u at e1
  subst e1
  refine XGp.go 23 rfl ?_
  refine XGp.callE [.ref 525, .long _, .int _] [_] _ rfl xm_X7_feed rfl rfl rfl rfl (fun _ => ⟨525, _, rfl, rfl, Nat.le_of_ble_eq_true rfl, Nat.le_of_ble_eq_true rfl⟩) (Nat.le_of_ble_eq_true rfl) (f_m_feed 6 _ (xg f0 xs 5) _ _) (fun h3 p3 c3 => ?_)
  refine XGp.go 1 rfl ?_
  refine XGp.ifp (rfl) ?_
  exact law_end xm_X6_feed xm_X7_feed rfl rfl (by decide) (by decide) c1 c3
set_option maxRecDepth 100000 in
theorem law_case4 (f0 xs : Nat → Int32) : XGp 11 xm_L (32, [some (.ref 1), some (.ref 2), some (.ref 525), some (.int (Int32.ofInt 0))], [.int 4], xh0 (xg f0 xs 5)) (some (.int 1)) xPL := by
  refine XGp.go 1 rfl ?_
  show XGp 11 xm_L (348, _, _, _) _ _
  refine XGp.go 1 rfl ?_
  refine XGp.callE [.ref 2] [] _ rfl xm_X6_grant rfl rfl rfl rfl (fun _ => ⟨2, _, rfl, rfl, Nat.le_of_ble_eq_true rfl, Nat.le_of_ble_eq_true rfl⟩) (Nat.le_of_ble_eq_true rfl) (f_c_grant 6 (xg f0 xs 5)) (fun h1 p1 c1 => ?_)
  have e1 := xP_hm2 p1 (fun j hj => (XCall.ext _ _ _ _ _ _ c1 (Nat.le_of_ble_eq_true rfl) j hj).trans (if_pos hj))
  generalize hu : h1.2.2 = u at e1
  subst e1
  refine XGp.go 1 rfl ?_
  refine XGp.callE [.ref 525] [_] _ rfl xm_X7_grant rfl rfl rfl rfl (fun _ => ⟨525, _, rfl, rfl, Nat.le_of_ble_eq_true rfl, Nat.le_of_ble_eq_true rfl⟩) (Nat.le_of_ble_eq_true rfl) (f_m_grant 6 _ (xg f0 xs 5)) (fun h3 p3 c3 => ?_)
  refine XGp.go 1 rfl ?_
  refine XGp.ifp (rfl) ?_
  exact law_end xm_X6_grant xm_X7_grant rfl rfl (by decide) (by decide) c1 c3
set_option maxRecDepth 100000 in
theorem law_case5 (f0 xs : Nat → Int32) : XGp 11 xm_L (32, [some (.ref 1), some (.ref 2), some (.ref 525), some (.int (Int32.ofInt 0))], [.int 5], xh0 (xg f0 xs 5)) (some (.int 1)) xPL := by
  refine XGp.go 1 rfl ?_
  show XGp 11 xm_L (361, _, _, _) _ _
  refine XGp.go 11 rfl ?_
  refine XGp.callE [.ref 2, .int _, .int _] [] _ rfl xm_X6_told rfl rfl rfl rfl (fun _ => ⟨2, _, rfl, rfl, Nat.le_of_ble_eq_true rfl, Nat.le_of_ble_eq_true rfl⟩) (Nat.le_of_ble_eq_true rfl) (f_c_told 9 (xg f0 xs 5) _ _) (fun h1 p1 c1 => ?_)
  have e1 := xP_hm2 p1 (fun j hj => (XCall.ext _ _ _ _ _ _ c1 (Nat.le_of_ble_eq_true rfl) j hj).trans (if_pos hj))
  generalize hu : h1.2.2 = u at e1
  subst e1
  refine XGp.go 11 rfl ?_
  refine XGp.callE [.ref 525, .int _, .int _] [_] _ rfl xm_X7_told rfl rfl rfl rfl (fun _ => ⟨525, _, rfl, rfl, Nat.le_of_ble_eq_true rfl, Nat.le_of_ble_eq_true rfl⟩) (Nat.le_of_ble_eq_true rfl) (f_m_told 7 _ (xg f0 xs 5) _ _) (fun h3 p3 c3 => ?_)
  refine XGp.go 1 rfl ?_
  refine XGp.ifp (rfl) ?_
  exact law_end xm_X6_told xm_X7_told rfl rfl (by decide) (by decide) c1 c3
set_option maxRecDepth 100000 in
theorem law_case6 (f0 xs : Nat → Int32) : XGp 11 xm_L (32, [some (.ref 1), some (.ref 2), some (.ref 525), some (.int (Int32.ofInt 0))], [.int 6], xh0 (xg f0 xs 5)) (some (.int 1)) xPL := by
  refine XGp.go 1 rfl ?_
  show XGp 11 xm_L (394, _, _, _) _ _
  refine XGp.go 21 rfl ?_
  refine XGp.callE [.ref 2, .int _, .int _, .int _, .int _] [] _ rfl xm_X6_has rfl rfl rfl rfl (fun _ => ⟨2, _, rfl, rfl, Nat.le_of_ble_eq_true rfl, Nat.le_of_ble_eq_true rfl⟩) (Nat.le_of_ble_eq_true rfl) (f_c_has 9 (xg f0 xs 5) _ _ _ _) (fun h1 p1 c1 => ?_)
  have e1 := xP_hm2 p1 (fun j hj => (XCall.ext _ _ _ _ _ _ c1 (Nat.le_of_ble_eq_true rfl) j hj).trans (if_pos hj))
  generalize hu : h1.2.2 = u at e1
  subst e1
  refine XGp.go 21 rfl ?_
  refine XGp.callE [.ref 525, .int _, .int _, .int _, .int _] [_] _ rfl xm_X7_has rfl rfl rfl rfl (fun _ => ⟨525, _, rfl, rfl, Nat.le_of_ble_eq_true rfl, Nat.le_of_ble_eq_true rfl⟩) (Nat.le_of_ble_eq_true rfl) (f_m_has 7 _ (xg f0 xs 5) _ _ _ _) (fun h3 p3 c3 => ?_)
  refine XGp.go 1 rfl ?_
  refine XGp.ifp (rfl) ?_
  exact law_end xm_X6_has xm_X7_has rfl rfl (by decide) (by decide) c1 c3
set_option maxRecDepth 100000 in
theorem law_case7 (f0 xs : Nat → Int32) : XGp 11 xm_L (32, [some (.ref 1), some (.ref 2), some (.ref 525), some (.int (Int32.ofInt 0))], [.int 7], xh0 (xg f0 xs 5)) (some (.int 1)) xPL := by
  refine XGp.go 1 rfl ?_
  show XGp 11 xm_L (447, _, _, _) _ _
  refine XGp.go 16 rfl ?_
  refine XGp.callE [.ref 2, .int _, .int _, .int _] [] _ rfl xm_X6_began rfl rfl rfl rfl (fun _ => ⟨2, _, rfl, rfl, Nat.le_of_ble_eq_true rfl, Nat.le_of_ble_eq_true rfl⟩) (Nat.le_of_ble_eq_true rfl) (f_c_began 9 (xg f0 xs 5) _ _ _) (fun h1 p1 c1 => ?_)
  have e1 := xP_hm2 p1 (fun j hj => (XCall.ext _ _ _ _ _ _ c1 (Nat.le_of_ble_eq_true rfl) j hj).trans (if_pos hj))
  generalize hu : h1.2.2 = u at e1
  subst e1
  refine XGp.go 16 rfl ?_
  refine XGp.callE [.ref 525, .int _, .int _, .int _] [_] _ rfl xm_X7_began rfl rfl rfl rfl (fun _ => ⟨525, _, rfl, rfl, Nat.le_of_ble_eq_true rfl, Nat.le_of_ble_eq_true rfl⟩) (Nat.le_of_ble_eq_true rfl) (f_m_began 7 _ (xg f0 xs 5) _ _ _) (fun h3 p3 c3 => ?_)
  refine XGp.go 1 rfl ?_
  refine XGp.ifp (rfl) ?_
  exact law_end xm_X6_began xm_X7_began rfl rfl (by decide) (by decide) c1 c3
set_option maxRecDepth 100000 in
theorem law_case8 (f0 xs : Nat → Int32) : XGp 11 xm_L (32, [some (.ref 1), some (.ref 2), some (.ref 525), some (.int (Int32.ofInt 0))], [.int 8], xh0 (xg f0 xs 5)) (some (.int 1)) xPL := by
  refine XGp.go 1 rfl ?_
  show XGp 11 xm_L (490, _, _, _) _ _
  refine XGp.go 16 rfl ?_
  refine XGp.callE [.ref 2, .int _, .int _, .int _] [] _ rfl xm_X6_sure rfl rfl rfl rfl (fun _ => ⟨2, _, rfl, rfl, Nat.le_of_ble_eq_true rfl, Nat.le_of_ble_eq_true rfl⟩) (Nat.le_of_ble_eq_true rfl) (f_c_sure 9 (xg f0 xs 5) _ _ _) (fun h1 p1 c1 => ?_)
  have e1 := xP_hm2 p1 (fun j hj => (XCall.ext _ _ _ _ _ _ c1 (Nat.le_of_ble_eq_true rfl) j hj).trans (if_pos hj))
  generalize hu : h1.2.2 = u at e1
  subst e1
  refine XGp.go 16 rfl ?_
  refine XGp.callE [.ref 525, .int _, .int _, .int _] [_] _ rfl xm_X7_sure rfl rfl rfl rfl (fun _ => ⟨525, _, rfl, rfl, Nat.le_of_ble_eq_true rfl, Nat.le_of_ble_eq_true rfl⟩) (Nat.le_of_ble_eq_true rfl) (f_m_sure 7 _ (xg f0 xs 5) _ _ _) (fun h3 p3 c3 => ?_)
  refine XGp.go 1 rfl ?_
  refine XGp.ifp (rfl) ?_
  exact law_end xm_X6_sure xm_X7_sure rfl rfl (by decide) (by decide) c1 c3
set_option maxRecDepth 100000 in
theorem law_case9 (f0 xs : Nat → Int32) : XGp 11 xm_L (32, [some (.ref 1), some (.ref 2), some (.ref 525), some (.int (Int32.ofInt 0))], [.int 9], xh0 (xg f0 xs 5)) (some (.int 1)) xPL := by
  refine XGp.go 1 rfl ?_
  show XGp 11 xm_L (533, _, _, _) _ _
  refine XGp.go 11 rfl ?_
  refine XGp.callE [.ref 2, .int _, .int _] [] _ rfl xm_X6_holders rfl rfl rfl rfl (fun _ => ⟨2, _, rfl, rfl, Nat.le_of_ble_eq_true rfl, Nat.le_of_ble_eq_true rfl⟩) (Nat.le_of_ble_eq_true rfl) (f_c_holders 9 (xg f0 xs 5) _ _) (fun h1 p1 c1 => ?_)
  have e1 := xP_hm2 p1 (fun j hj => (XCall.ext _ _ _ _ _ _ c1 (Nat.le_of_ble_eq_true rfl) j hj).trans (if_pos hj))
  generalize hu : h1.2.2 = u at e1
  subst e1
  refine XGp.go 11 rfl ?_
  refine XGp.callE [.ref 525, .int _, .int _] [_] _ rfl xm_X7_holders rfl rfl rfl rfl (fun _ => ⟨525, _, rfl, rfl, Nat.le_of_ble_eq_true rfl, Nat.le_of_ble_eq_true rfl⟩) (Nat.le_of_ble_eq_true rfl) (f_m_holders 7 _ (xg f0 xs 5) _ _) (fun h3 p3 c3 => ?_)
  refine XGp.go 1 rfl ?_
  refine XGp.ifp (rfl) ?_
  exact law_end xm_X6_holders xm_X7_holders rfl rfl (by decide) (by decide) c1 c3
set_option maxRecDepth 100000 in
theorem law_case10 (f0 xs : Nat → Int32) : XGp 11 xm_L (32, [some (.ref 1), some (.ref 2), some (.ref 525), some (.int (Int32.ofInt 0))], [.int 10], xh0 (xg f0 xs 5)) (some (.int 1)) xPL := by
  refine XGp.go 1 rfl ?_
  show XGp 11 xm_L (566, _, _, _) _ _
  refine XGp.go 21 rfl ?_
  refine XGp.callE [.ref 2, .int _, .int _, .int _, .int _] [] _ rfl xm_X6_share rfl rfl rfl rfl (fun _ => ⟨2, _, rfl, rfl, Nat.le_of_ble_eq_true rfl, Nat.le_of_ble_eq_true rfl⟩) (Nat.le_of_ble_eq_true rfl) (f_c_share 9 (xg f0 xs 5) _ _ _ _) (fun h1 p1 c1 => ?_)
  have e1 := xP_hm2 p1 (fun j hj => (XCall.ext _ _ _ _ _ _ c1 (Nat.le_of_ble_eq_true rfl) j hj).trans (if_pos hj))
  generalize hu : h1.2.2 = u at e1
  subst e1
  refine XGp.go 21 rfl ?_
  refine XGp.callE [.ref 525, .int _, .int _, .int _, .int _] [_] _ rfl xm_X7_share rfl rfl rfl rfl (fun _ => ⟨525, _, rfl, rfl, Nat.le_of_ble_eq_true rfl, Nat.le_of_ble_eq_true rfl⟩) (Nat.le_of_ble_eq_true rfl) (f_m_share 7 _ (xg f0 xs 5) _ _ _ _) (fun h3 p3 c3 => ?_)
  refine XGp.go 1 rfl ?_
  refine XGp.ifp (rfl) ?_
  exact law_end xm_X6_share xm_X7_share rfl rfl (by decide) (by decide) c1 c3
set_option maxRecDepth 100000 in
theorem law_case11 (f0 xs : Nat → Int32) : XGp 11 xm_L (32, [some (.ref 1), some (.ref 2), some (.ref 525), some (.int (Int32.ofInt 0))], [.int 11], xh0 (xg f0 xs 5)) (some (.int 1)) xPL := by
  refine XGp.go 1 rfl ?_
  show XGp 11 xm_L (619, _, _, _) _ _
  refine XGp.go 11 rfl ?_
  refine XGp.callE [.ref 2, .int _, .int _] [] _ rfl xm_X6_judged rfl rfl rfl rfl (fun _ => ⟨2, _, rfl, rfl, Nat.le_of_ble_eq_true rfl, Nat.le_of_ble_eq_true rfl⟩) (Nat.le_of_ble_eq_true rfl) (f_c_judged 9 (xg f0 xs 5) _ _) (fun h1 p1 c1 => ?_)
  have e1 := xP_hm2 p1 (fun j hj => (XCall.ext _ _ _ _ _ _ c1 (Nat.le_of_ble_eq_true rfl) j hj).trans (if_pos hj))
  generalize hu : h1.2.2 = u at e1
  subst e1
  refine XGp.go 11 rfl ?_
  refine XGp.callE [.ref 525, .int _, .int _] [_] _ rfl xm_X7_judged rfl rfl rfl rfl (fun _ => ⟨525, _, rfl, rfl, Nat.le_of_ble_eq_true rfl, Nat.le_of_ble_eq_true rfl⟩) (Nat.le_of_ble_eq_true rfl) (f_m_judged 7 _ (xg f0 xs 5) _ _) (fun h3 p3 c3 => ?_)
  refine XGp.go 1 rfl ?_
  refine XGp.ifp (rfl) ?_
  exact law_end xm_X6_judged xm_X7_judged rfl rfl (by decide) (by decide) c1 c3
set_option maxRecDepth 100000 in
theorem law_case12 (f0 xs : Nat → Int32) : XGp 11 xm_L (32, [some (.ref 1), some (.ref 2), some (.ref 525), some (.int (Int32.ofInt 0))], [.int 12], xh0 (xg f0 xs 5)) (some (.int 1)) xPL := by
  refine XGp.go 1 rfl ?_
  show XGp 11 xm_L (652, _, _, _) _ _
  refine XGp.go 6 rfl ?_
  refine XGp.callE [.ref 2, .int _] [] _ rfl xm_X6_row rfl rfl rfl rfl (fun _ => ⟨2, _, rfl, rfl, Nat.le_of_ble_eq_true rfl, Nat.le_of_ble_eq_true rfl⟩) (Nat.le_of_ble_eq_true rfl) (f_c_row 8 (xg f0 xs 5) _) (fun h1 p1 c1 => ?_)
  have e1 := xP_hm2 p1 (fun j hj => (XCall.ext _ _ _ _ _ _ c1 (Nat.le_of_ble_eq_true rfl) j hj).trans (if_pos hj))
  generalize hu : h1.2.2 = u at e1
  subst e1
  refine XGp.go 6 rfl ?_
  refine XGp.callE [.ref 525, .int _] [_] _ rfl xm_X7_row rfl rfl rfl rfl (fun _ => ⟨525, _, rfl, rfl, Nat.le_of_ble_eq_true rfl, Nat.le_of_ble_eq_true rfl⟩) (Nat.le_of_ble_eq_true rfl) (f_m_row 6 _ (xg f0 xs 5) _) (fun h3 p3 c3 => ?_)
  refine XGp.go 1 rfl ?_
  refine XGp.ifp (a_row _) ?_
  exact law_end xm_X6_row xm_X7_row rfl rfl (by decide) (by decide) c1 c3
set_option maxRecDepth 100000 in
theorem law_case13 (f0 xs : Nat → Int32) : XGp 11 xm_L (32, [some (.ref 1), some (.ref 2), some (.ref 525), some (.int (Int32.ofInt 0))], [.int 13], xh0 (xg f0 xs 5)) (some (.int 1)) xPL := by
  refine XGp.go 1 rfl ?_
  show XGp 11 xm_L (675, _, _, _) _ _
  refine XGp.go 21 rfl ?_
  refine XGp.callE [.ref 2, .int _, .int _, .int _, .int _] [] _ rfl xm_X6_late rfl rfl rfl rfl (fun _ => ⟨2, _, rfl, rfl, Nat.le_of_ble_eq_true rfl, Nat.le_of_ble_eq_true rfl⟩) (Nat.le_of_ble_eq_true rfl) (f_c_late 9 (xg f0 xs 5) _ _ _ _) (fun h1 p1 c1 => ?_)
  have e1 := xP_hm2 p1 (fun j hj => (XCall.ext _ _ _ _ _ _ c1 (Nat.le_of_ble_eq_true rfl) j hj).trans (if_pos hj))
  generalize hu : h1.2.2 = u at e1
  subst e1
  refine XGp.go 21 rfl ?_
  refine XGp.callE [.ref 525, .int _, .int _, .int _, .int _] [_] _ rfl xm_X7_late rfl rfl rfl rfl (fun _ => ⟨525, _, rfl, rfl, Nat.le_of_ble_eq_true rfl, Nat.le_of_ble_eq_true rfl⟩) (Nat.le_of_ble_eq_true rfl) (f_m_late 7 _ (xg f0 xs 5) _ _ _ _) (fun h3 p3 c3 => ?_)
  refine XGp.go 1 rfl ?_
  refine XGp.ifp (rfl) ?_
  exact law_end xm_X6_late xm_X7_late rfl rfl (by decide) (by decide) c1 c3
set_option maxRecDepth 100000 in
theorem law_case14 (f0 xs : Nat → Int32) : XGp 11 xm_L (32, [some (.ref 1), some (.ref 2), some (.ref 525), some (.int (Int32.ofInt 0))], [.int 14], xh0 (xg f0 xs 5)) (some (.int 1)) xPL := by
  refine XGp.go 1 rfl ?_
  show XGp 11 xm_L (728, _, _, _) _ _
  refine XGp.go 6 rfl ?_
  refine XGp.callE [.ref 2, .int _] [] _ rfl xm_X6_measure rfl rfl rfl rfl (fun _ => ⟨2, _, rfl, rfl, Nat.le_of_ble_eq_true rfl, Nat.le_of_ble_eq_true rfl⟩) (Nat.le_of_ble_eq_true rfl) (f_c_measure 6 (xg f0 xs 5) _) (fun h1 p1 c1 => ?_)
  have e1 := xP_hm2 p1 (fun j hj => (XCall.ext _ _ _ _ _ _ c1 (Nat.le_of_ble_eq_true rfl) j hj).trans (if_pos hj))
  generalize hu : h1.2.2 = u at e1
  subst e1
  refine XGp.go 6 rfl ?_
  refine XGp.callE [.ref 525, .int _] [_] _ rfl xm_X7_measure rfl rfl rfl rfl (fun _ => ⟨525, _, rfl, rfl, Nat.le_of_ble_eq_true rfl, Nat.le_of_ble_eq_true rfl⟩) (Nat.le_of_ble_eq_true rfl) (f_m_measure 6 _ (xg f0 xs 5) _) (fun h3 p3 c3 => ?_)
  refine XGp.go 1 rfl ?_
  refine XGp.ifp (rfl) ?_
  exact law_end xm_X6_measure xm_X7_measure rfl rfl (by decide) (by decide) c1 c3
set_option maxRecDepth 100000 in
theorem law_case15 (f0 xs : Nat → Int32) : XGp 11 xm_L (32, [some (.ref 1), some (.ref 2), some (.ref 525), some (.int (Int32.ofInt 0))], [.int 15], xh0 (xg f0 xs 5)) (some (.int 1)) xPL := by
  refine XGp.go 1 rfl ?_
  show XGp 11 xm_L (751, _, _, _) _ _
  refine XGp.go 21 rfl ?_
  refine XGp.callE [.ref 2, .int _, .int _, .int _, .int _] [] _ rfl xm_X6_see rfl rfl rfl rfl (fun _ => ⟨2, _, rfl, rfl, Nat.le_of_ble_eq_true rfl, Nat.le_of_ble_eq_true rfl⟩) (Nat.le_of_ble_eq_true rfl) (f_c_see 9 (xg f0 xs 5) _ _ _ _) (fun h1 p1 c1 => ?_)
  have e1 := xP_hm2 p1 (fun j hj => (XCall.ext _ _ _ _ _ _ c1 (Nat.le_of_ble_eq_true rfl) j hj).trans (if_pos hj))
  generalize hu : h1.2.2 = u at e1
  subst e1
  refine XGp.go 21 rfl ?_
  refine XGp.callE [.ref 525, .int _, .int _, .int _, .int _] [_] _ rfl xm_X7_see rfl rfl rfl rfl (fun _ => ⟨525, _, rfl, rfl, Nat.le_of_ble_eq_true rfl, Nat.le_of_ble_eq_true rfl⟩) (Nat.le_of_ble_eq_true rfl) (f_m_see 7 _ (xg f0 xs 5) _ _ _ _) (fun h3 p3 c3 => ?_)
  refine XGp.go 1 rfl ?_
  refine XGp.ifp (rfl) ?_
  exact law_end xm_X6_see xm_X7_see rfl rfl (by decide) (by decide) c1 c3
set_option maxRecDepth 100000 in
theorem law_case16 (f0 xs : Nat → Int32) : XGp 11 xm_L (32, [some (.ref 1), some (.ref 2), some (.ref 525), some (.int (Int32.ofInt 0))], [.int 16], xh0 (xg f0 xs 5)) (some (.int 1)) xPL := by
  refine XGp.go 1 rfl ?_
  show XGp 11 xm_L (804, _, _, _) _ _
  refine XGp.go 11 rfl ?_
  refine XGp.callE [.ref 2, .int _, .int _] [] _ rfl xm_X6_strike rfl rfl rfl rfl (fun _ => ⟨2, _, rfl, rfl, Nat.le_of_ble_eq_true rfl, Nat.le_of_ble_eq_true rfl⟩) (Nat.le_of_ble_eq_true rfl) (f_c_strike 9 (xg f0 xs 5) _ _) (fun h1 p1 c1 => ?_)
  have e1 := xP_hm2 p1 (fun j hj => (XCall.ext _ _ _ _ _ _ c1 (Nat.le_of_ble_eq_true rfl) j hj).trans (if_pos hj))
  generalize hu : h1.2.2 = u at e1
  subst e1
  refine XGp.go 11 rfl ?_
  refine XGp.callE [.ref 525, .int _, .int _] [_] _ rfl xm_X7_strike rfl rfl rfl rfl (fun _ => ⟨525, _, rfl, rfl, Nat.le_of_ble_eq_true rfl, Nat.le_of_ble_eq_true rfl⟩) (Nat.le_of_ble_eq_true rfl) (f_m_strike 7 _ (xg f0 xs 5) _ _) (fun h3 p3 c3 => ?_)
  refine XGp.go 1 rfl ?_
  refine XGp.ifp (rfl) ?_
  exact law_end xm_X6_strike xm_X7_strike rfl rfl (by decide) (by decide) c1 c3
set_option maxRecDepth 100000 in
theorem law_case17 (f0 xs : Nat → Int32) : XGp 11 xm_L (32, [some (.ref 1), some (.ref 2), some (.ref 525), some (.int (Int32.ofInt 0))], [.int 17], xh0 (xg f0 xs 5)) (some (.int 1)) xPL := by
  refine XGp.go 1 rfl ?_
  show XGp 11 xm_L (837, _, _, _) _ _
  refine XGp.go 16 rfl ?_
  refine XGp.callE [.ref 2, .int _, .int _, .int _] [] _ rfl xm_X6_mend rfl rfl rfl rfl (fun _ => ⟨2, _, rfl, rfl, Nat.le_of_ble_eq_true rfl, Nat.le_of_ble_eq_true rfl⟩) (Nat.le_of_ble_eq_true rfl) (f_c_mend 9 (xg f0 xs 5) _ _ _) (fun h1 p1 c1 => ?_)
  have e1 := xP_hm2 p1 (fun j hj => (XCall.ext _ _ _ _ _ _ c1 (Nat.le_of_ble_eq_true rfl) j hj).trans (if_pos hj))
  generalize hu : h1.2.2 = u at e1
  subst e1
  refine XGp.go 16 rfl ?_
  refine XGp.callE [.ref 525, .int _, .int _, .int _] [_] _ rfl xm_X7_mend rfl rfl rfl rfl (fun _ => ⟨525, _, rfl, rfl, Nat.le_of_ble_eq_true rfl, Nat.le_of_ble_eq_true rfl⟩) (Nat.le_of_ble_eq_true rfl) (f_m_mend 7 _ (xg f0 xs 5) _ _ _) (fun h3 p3 c3 => ?_)
  refine XGp.go 1 rfl ?_
  refine XGp.ifp (rfl) ?_
  exact law_end xm_X6_mend xm_X7_mend rfl rfl (by decide) (by decide) c1 c3
set_option maxRecDepth 100000 in
theorem law_case18 (f0 xs : Nat → Int32) : XGp 11 xm_L (32, [some (.ref 1), some (.ref 2), some (.ref 525), some (.int (Int32.ofInt 0))], [.int 18], xh0 (xg f0 xs 5)) (some (.int 1)) xPL := by
  refine XGp.go 1 rfl ?_
  show XGp 11 xm_L (880, _, _, _) _ _
  refine XGp.go 21 rfl ?_
  refine XGp.callE [.ref 2, .int _, .int _, .int _, .int _] [] _ rfl xm_X6_both rfl rfl rfl rfl (fun _ => ⟨2, _, rfl, rfl, Nat.le_of_ble_eq_true rfl, Nat.le_of_ble_eq_true rfl⟩) (Nat.le_of_ble_eq_true rfl) (f_c_both 9 (xg f0 xs 5) _ _ _ _) (fun h1 p1 c1 => ?_)
  have e1 := xP_hm2 p1 (fun j hj => (XCall.ext _ _ _ _ _ _ c1 (Nat.le_of_ble_eq_true rfl) j hj).trans (if_pos hj))
  generalize hu : h1.2.2 = u at e1
  subst e1
  refine XGp.go 21 rfl ?_
  refine XGp.callE [.ref 525, .int _, .int _, .int _, .int _] [_] _ rfl xm_X7_both rfl rfl rfl rfl (fun _ => ⟨525, _, rfl, rfl, Nat.le_of_ble_eq_true rfl, Nat.le_of_ble_eq_true rfl⟩) (Nat.le_of_ble_eq_true rfl) (f_m_both 7 _ (xg f0 xs 5) _ _ _ _) (fun h3 p3 c3 => ?_)
  refine XGp.go 1 rfl ?_
  refine XGp.ifp (rfl) ?_
  exact law_end xm_X6_both xm_X7_both rfl rfl (by decide) (by decide) c1 c3
set_option maxRecDepth 100000 in
theorem law_case19 (f0 xs : Nat → Int32) : XGp 11 xm_L (32, [some (.ref 1), some (.ref 2), some (.ref 525), some (.int (Int32.ofInt 0))], [.int 19], xh0 (xg f0 xs 5)) (some (.int 1)) xPL := by
  refine XGp.go 1 rfl ?_
  show XGp 11 xm_L (933, _, _, _) _ _
  refine XGp.go 16 rfl ?_
  refine XGp.callE [.ref 2, .int _, .int _, .int _] [] _ rfl xm_X6_clash rfl rfl rfl rfl (fun _ => ⟨2, _, rfl, rfl, Nat.le_of_ble_eq_true rfl, Nat.le_of_ble_eq_true rfl⟩) (Nat.le_of_ble_eq_true rfl) (f_c_clash 9 (xg f0 xs 5) _ _ _) (fun h1 p1 c1 => ?_)
  have e1 := xP_hm2 p1 (fun j hj => (XCall.ext _ _ _ _ _ _ c1 (Nat.le_of_ble_eq_true rfl) j hj).trans (if_pos hj))
  generalize hu : h1.2.2 = u at e1
  subst e1
  refine XGp.go 16 rfl ?_
  refine XGp.callE [.ref 525, .int _, .int _, .int _] [_] _ rfl xm_X7_clash rfl rfl rfl rfl (fun _ => ⟨525, _, rfl, rfl, Nat.le_of_ble_eq_true rfl, Nat.le_of_ble_eq_true rfl⟩) (Nat.le_of_ble_eq_true rfl) (f_m_clash 7 _ (xg f0 xs 5) _ _ _) (fun h3 p3 c3 => ?_)
  refine XGp.go 1 rfl ?_
  refine XGp.ifp (rfl) ?_
  exact law_end xm_X6_clash xm_X7_clash rfl rfl (by decide) (by decide) c1 c3
set_option maxRecDepth 100000 in
theorem law_case20 (f0 xs : Nat → Int32) : XGp 11 xm_L (32, [some (.ref 1), some (.ref 2), some (.ref 525), some (.int (Int32.ofInt 0))], [.int 20], xh0 (xg f0 xs 5)) (some (.int 1)) xPL := by
  refine XGp.go 1 rfl ?_
  show XGp 11 xm_L (976, _, _, _) _ _
  refine XGp.go 11 rfl ?_
  refine XGp.callE [.ref 2, .int _, .int _] [] _ rfl xm_X6_same rfl rfl rfl rfl (fun _ => ⟨2, _, rfl, rfl, Nat.le_of_ble_eq_true rfl, Nat.le_of_ble_eq_true rfl⟩) (Nat.le_of_ble_eq_true rfl) (f_c_same 9 (xg f0 xs 5) _ _) (fun h1 p1 c1 => ?_)
  have e1 := xP_hm2 p1 (fun j hj => (XCall.ext _ _ _ _ _ _ c1 (Nat.le_of_ble_eq_true rfl) j hj).trans (if_pos hj))
  generalize hu : h1.2.2 = u at e1
  subst e1
  refine XGp.go 11 rfl ?_
  refine XGp.callE [.ref 525, .int _, .int _] [_] _ rfl xm_X7_same rfl rfl rfl rfl (fun _ => ⟨525, _, rfl, rfl, Nat.le_of_ble_eq_true rfl, Nat.le_of_ble_eq_true rfl⟩) (Nat.le_of_ble_eq_true rfl) (f_m_same 7 _ (xg f0 xs 5) _ _) (fun h3 p3 c3 => ?_)
  refine XGp.go 1 rfl ?_
  refine XGp.ifp (rfl) ?_
  exact law_end xm_X6_same xm_X7_same rfl rfl (by decide) (by decide) c1 c3
set_option maxRecDepth 100000 in
theorem law_case21 (f0 xs : Nat → Int32) : XGp 11 xm_L (32, [some (.ref 1), some (.ref 2), some (.ref 525), some (.int (Int32.ofInt 0))], [.int 21], xh0 (xg f0 xs 5)) (some (.int 1)) xPL := by
  refine XGp.go 1 rfl ?_
  show XGp 11 xm_L (1009, _, _, _) _ _
  refine XGp.go 21 rfl ?_
  refine XGp.callE [.ref 2, .int _, .int _, .int _, .int _] [] _ rfl xm_X6_act rfl rfl rfl rfl (fun _ => ⟨2, _, rfl, rfl, Nat.le_of_ble_eq_true rfl, Nat.le_of_ble_eq_true rfl⟩) (Nat.le_of_ble_eq_true rfl) (f_c_act 9 (xg f0 xs 5) _ _ _ _) (fun h1 p1 c1 => ?_)
  have e1 := xP_hm2 p1 (fun j hj => (XCall.ext _ _ _ _ _ _ c1 (Nat.le_of_ble_eq_true rfl) j hj).trans (if_pos hj))
  generalize hu : h1.2.2 = u at e1
  subst e1
  refine XGp.go 21 rfl ?_
  refine XGp.callE [.ref 525, .int _, .int _, .int _, .int _] [_] _ rfl xm_X7_act rfl rfl rfl rfl (fun _ => ⟨525, _, rfl, rfl, Nat.le_of_ble_eq_true rfl, Nat.le_of_ble_eq_true rfl⟩) (Nat.le_of_ble_eq_true rfl) (f_m_act 7 _ (xg f0 xs 5) _ _ _ _) (fun h3 p3 c3 => ?_)
  refine XGp.go 1 rfl ?_
  refine XGp.ifp (rfl) ?_
  exact law_end xm_X6_act xm_X7_act rfl rfl (by decide) (by decide) c1 c3
set_option maxRecDepth 100000 in
theorem law_case22 (f0 xs : Nat → Int32) : XGp 11 xm_L (32, [some (.ref 1), some (.ref 2), some (.ref 525), some (.int (Int32.ofInt 0))], [.int 22], xh0 (xg f0 xs 5)) (some (.int 1)) xPL := by
  refine XGp.go 1 rfl ?_
  show XGp 11 xm_L (1062, _, _, _) _ _
  refine XGp.go 6 rfl ?_
  refine XGp.callE [.ref 2, .int _] [] _ rfl xm_X6_trace rfl rfl rfl rfl (fun _ => ⟨2, _, rfl, rfl, Nat.le_of_ble_eq_true rfl, Nat.le_of_ble_eq_true rfl⟩) (Nat.le_of_ble_eq_true rfl) (f_c_trace 9 (xg f0 xs 5) _) (fun h1 p1 c1 => ?_)
  have e1 := xP_hm2 p1 (fun j hj => (XCall.ext _ _ _ _ _ _ c1 (Nat.le_of_ble_eq_true rfl) j hj).trans (if_pos hj))
  generalize hu : h1.2.2 = u at e1
  subst e1
  refine XGp.go 6 rfl ?_
  refine XGp.callE [.ref 525, .int _] [_] _ rfl xm_X7_trace rfl rfl rfl rfl (fun _ => ⟨525, _, rfl, rfl, Nat.le_of_ble_eq_true rfl, Nat.le_of_ble_eq_true rfl⟩) (Nat.le_of_ble_eq_true rfl) (f_m_trace 7 _ (xg f0 xs 5) _) (fun h3 p3 c3 => ?_)
  refine XGp.go 1 rfl ?_
  refine XGp.ifp (rfl) ?_
  exact law_end xm_X6_trace xm_X7_trace rfl rfl (by decide) (by decide) c1 c3
set_option maxRecDepth 100000 in
theorem law_case23 (f0 xs : Nat → Int32) : XGp 11 xm_L (32, [some (.ref 1), some (.ref 2), some (.ref 525), some (.int (Int32.ofInt 0))], [.int 23], xh0 (xg f0 xs 5)) (some (.int 1)) xPL := by
  refine XGp.go 1 rfl ?_
  show XGp 11 xm_L (1085, _, _, _) _ _
  refine XGp.go 16 rfl ?_
  refine XGp.callE [.ref 2, .int _, .int _, .int _] [] _ rfl xm_X6_as rfl rfl rfl rfl (fun _ => ⟨2, _, rfl, rfl, Nat.le_of_ble_eq_true rfl, Nat.le_of_ble_eq_true rfl⟩) (Nat.le_of_ble_eq_true rfl) (f_c_as 9 (xg f0 xs 5) _ _ _) (fun h1 p1 c1 => ?_)
  have e1 := xP_hm2 p1 (fun j hj => (XCall.ext _ _ _ _ _ _ c1 (Nat.le_of_ble_eq_true rfl) j hj).trans (if_pos hj))
  generalize hu : h1.2.2 = u at e1
  subst e1
  refine XGp.go 16 rfl ?_
  refine XGp.callE [.ref 525, .int _, .int _, .int _] [_] _ rfl xm_X7_as rfl rfl rfl rfl (fun _ => ⟨525, _, rfl, rfl, Nat.le_of_ble_eq_true rfl, Nat.le_of_ble_eq_true rfl⟩) (Nat.le_of_ble_eq_true rfl) (f_m_as 7 _ (xg f0 xs 5) _ _ _) (fun h3 p3 c3 => ?_)
  refine XGp.go 1 rfl ?_
  refine XGp.ifp (rfl) ?_
  exact law_end xm_X6_as xm_X7_as rfl rfl (by decide) (by decide) c1 c3
set_option maxRecDepth 100000 in
theorem law_case24 (f0 xs : Nat → Int32) : XGp 11 xm_L (32, [some (.ref 1), some (.ref 2), some (.ref 525), some (.int (Int32.ofInt 0))], [.int 24], xh0 (xg f0 xs 5)) (some (.int 1)) xPL := by
  refine XGp.go 1 rfl ?_
  show XGp 11 xm_L (1128, _, _, _) _ _
  refine XGp.go 1 rfl ?_
  refine XGp.callE [.ref 2] [] _ rfl xm_X6_image rfl rfl rfl rfl (fun _ => ⟨2, _, rfl, rfl, Nat.le_of_ble_eq_true rfl, Nat.le_of_ble_eq_true rfl⟩) (Nat.le_of_ble_eq_true rfl) (f_c_image 6 (xg f0 xs 5)) (fun h1 p1 c1 => ?_)
  have e1 := xP_hm2 p1 (fun j hj => (XCall.ext _ _ _ _ _ _ c1 (Nat.le_of_ble_eq_true rfl) j hj).trans (if_pos hj))
  generalize hu : h1.2.2 = u at e1
  subst e1
  refine XGp.go 1 rfl ?_
  refine XGp.callE [.ref 525] [_] _ rfl xm_X7_image rfl rfl rfl rfl (fun _ => ⟨525, _, rfl, rfl, Nat.le_of_ble_eq_true rfl, Nat.le_of_ble_eq_true rfl⟩) (Nat.le_of_ble_eq_true rfl) (f_m_image 6 _ (xg f0 xs 5)) (fun h3 p3 c3 => ?_)
  refine XGp.go 1 rfl ?_
  refine XGp.ifp (rfl) ?_
  exact law_end xm_X6_image xm_X7_image rfl rfl (by decide) (by decide) c1 c3
set_option maxRecDepth 100000 in
theorem law_case25 (f0 xs : Nat → Int32) : XGp 11 xm_L (32, [some (.ref 1), some (.ref 2), some (.ref 525), some (.int (Int32.ofInt 0))], [.int 25], xh0 (xg f0 xs 5)) (some (.int 1)) xPL := by
  refine XGp.go 1 rfl ?_
  show XGp 11 xm_L (1141, _, _, _) _ _
  refine XGp.go 1 rfl ?_
  refine XGp.callE [.ref 2] [] _ rfl xm_X6_undo rfl rfl rfl rfl (fun _ => ⟨2, _, rfl, rfl, Nat.le_of_ble_eq_true rfl, Nat.le_of_ble_eq_true rfl⟩) (Nat.le_of_ble_eq_true rfl) (f_c_undo 9 (xg f0 xs 5)) (fun h1 p1 c1 => ?_)
  have e1 := xP_hm2 p1 (fun j hj => (XCall.ext _ _ _ _ _ _ c1 (Nat.le_of_ble_eq_true rfl) j hj).trans (if_pos hj))
  generalize hu : h1.2.2 = u at e1
  subst e1
  refine XGp.go 1 rfl ?_
  refine XGp.callE [.ref 525] [_] _ rfl xm_X7_undo rfl rfl rfl rfl (fun _ => ⟨525, _, rfl, rfl, Nat.le_of_ble_eq_true rfl, Nat.le_of_ble_eq_true rfl⟩) (Nat.le_of_ble_eq_true rfl) (f_m_undo 7 _ (xg f0 xs 5)) (fun h3 p3 c3 => ?_)
  refine XGp.go 1 rfl ?_
  refine XGp.ifp (rfl) ?_
  exact law_end xm_X6_undo xm_X7_undo rfl rfl (by decide) (by decide) c1 c3
set_option maxRecDepth 100000 in
theorem law_case26 (f0 xs : Nat → Int32) : XGp 11 xm_L (32, [some (.ref 1), some (.ref 2), some (.ref 525), some (.int (Int32.ofInt 0))], [.int 26], xh0 (xg f0 xs 5)) (some (.int 1)) xPL := by
  refine XGp.go 1 rfl ?_
  show XGp 11 xm_L (1154, _, _, _) _ _
  refine XGp.go 6 rfl ?_
  refine XGp.callE [.ref 2, .int _] [] _ rfl xm_X6_count rfl rfl rfl rfl (fun _ => ⟨2, _, rfl, rfl, Nat.le_of_ble_eq_true rfl, Nat.le_of_ble_eq_true rfl⟩) (Nat.le_of_ble_eq_true rfl) (f_c_count 9 (xg f0 xs 5) _) (fun h1 p1 c1 => ?_)
  have e1 := xP_hm2 p1 (fun j hj => (XCall.ext _ _ _ _ _ _ c1 (Nat.le_of_ble_eq_true rfl) j hj).trans (if_pos hj))
  generalize hu : h1.2.2 = u at e1
  subst e1
  refine XGp.go 6 rfl ?_
  refine XGp.callE [.ref 525, .int _] [_] _ rfl xm_X7_count rfl rfl rfl rfl (fun _ => ⟨525, _, rfl, rfl, Nat.le_of_ble_eq_true rfl, Nat.le_of_ble_eq_true rfl⟩) (Nat.le_of_ble_eq_true rfl) (f_m_count 9 _ (xg f0 xs 5) _) (fun h3 p3 c3 => ?_)
  refine XGp.go 1 rfl ?_
  refine XGp.ifp (rfl) ?_
  exact law_end xm_X6_count xm_X7_count rfl rfl (by decide) (by decide) c1 c3
