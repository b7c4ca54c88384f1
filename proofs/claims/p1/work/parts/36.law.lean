theorem xhp_ext {ins : Instr} {a b : Nat} {st : List Value} {h : XH} {o : Nat × List Value × XH} (hs : xhp ins a b st h = some o) (h2 : 2 ≤ h.1) : ∀ j, j < 2 → o.2.2.2.2 j = h.2.2 j := by
  have key : ∀ (k : Nat) (e : XE), 2 ≤ k → ∀ j, j < 2 → (xup h k e).2.2 j = h.2.2 j := fun k e hk j hj => if_neg (by omega)
  have keyn : ∀ (n : Nat) (e : XE), ∀ j, j < 2 → (xnew h n e).2.2 j = h.2.2 j := fun n e j hj => if_neg (by omega)
  cases ins with
  | putfield idx =>
    simp only [xhp] at hs
    split at hs
    · split at hs
      · split at hs
        · rename_i hc
          have h4 := hc.2.1
          cases hs
          exact key _ _ h4
        · cases hs
      · cases hs
    · cases hs
  | iastore =>
    simp only [xhp] at hs
    split at hs
    · split at hs
      · split at hs
        · rename_i hc
          have h4 := hc.2.1
          cases hs
          exact key _ _ h4
        · cases hs
      · cases hs
    · cases hs
  | bastore =>
    simp only [xhp] at hs
    split at hs
    · split at hs
      · split at hs
        · rename_i hc
          have h4 := hc.2.1
          cases hs
          exact key _ _ h4
        · cases hs
      · cases hs
    · cases hs
  | aastore =>
    simp only [xhp] at hs
    split at hs
    · split at hs
      · split at hs
        · rename_i hc
          have h4 := hc.2.1
          cases hs
          exact key _ _ h4
        · cases hs
      · cases hs
    · cases hs
  | new idx => cases hs; exact keyn _ _
  | newarray ty =>
    simp only [xhp] at hs
    split at hs
    · split at hs
      · cases hs
        exact keyn _ _
      · cases hs
    · cases hs
  | anewarray idx =>
    simp only [xhp] at hs
    split at hs
    · split at hs
      · cases hs
        exact keyn _ _
      · cases hs
    · cases hs
  | invokestatic idx =>
    simp only [xhp] at hs
    split at hs
    · split at hs
      · split at hs
        · split at hs
          · rename_i hc
            have h4 := hc.2.1
            cases hs
            exact key _ _ h4
          · cases hs
        · cases hs
      · cases hs
    · split at hs
      · split at hs
        · split at hs
          · cases hs
            exact fun _ _ => rfl
          · cases hs
        · cases hs
      · cases hs
  | _ => simp [xhp] at hs
theorem XStep.ext {call : XCl} {M : XMeth} {c c1 : XC} (hc : ∀ i as h v h1, call i as h v h1 → 2 ≤ h.1 → ∀ j, j < 2 → h1.2.2 j = h.2.2 j) (h : XStep xM call M c c1) (h2 : 2 ≤ c.2.2.2.1) : ∀ j, j < 2 → c1.2.2.2.2.2 j = c.2.2.2.2.2 j := by
  obtain ⟨r, -, -, ⟨o, -, rfl⟩ | ⟨o, h1, rfl⟩ | ⟨M1, as, rest, v, h1, -, -, -, -, -, -, h3, rfl⟩⟩ := h
  · exact fun _ _ => rfl
  · exact xhp_ext h1 h2
  · exact hc _ _ _ _ _ h3 h2
theorem XRuns.ext {d : Nat} {M : XMeth} (hc : ∀ i as h v h1, XCall xM d i as h v h1 → 2 ≤ h.1 → ∀ j, j < 2 → h1.2.2 j = h.2.2 j) : ∀ (n : Nat) {c c1 : XC}, XRuns xM (XCall xM d) M n c c1 → 2 ≤ c.2.2.2.1 → ∀ j, j < 2 → c1.2.2.2.2.2 j = c.2.2.2.2.2 j
  | 0, c, c1, h, h2 => by cases h; exact fun _ _ => rfl
  | n + 1, c, c1, h, h2 => by
    obtain ⟨c2, h1, h3⟩ := h
    intro j hj
    exact (XRuns.ext hc n h3 (Nat.le_trans h2 (h1.mono (XCall.mono d)).1) j hj).trans (h1.ext hc h2 j hj)
theorem XCall.ext : ∀ (d i : Nat) (as : List Value) (h : XH) (v : Option Value) (h1 : XH), XCall xM d i as h v h1 → 2 ≤ h.1 → ∀ j, j < 2 → h1.2.2 j = h.2.2 j
  | 0, _, _, _, _, _, h => False.elim h
  | d + 1, i, as, h, v, h1, hc => by
    obtain ⟨M, n, c, -, -, hr, -, rfl⟩ := hc
    exact fun h2 => XRuns.ext (XCall.ext d) n hr h2
def xg (f0 xs : Nat → Int32) (L : Nat) : Nat → XE := fun j => if j = 0 then .inr (.inl (0, 7, f0)) else .inr (.inl (0, L, xs))
theorem xP_hm2 {g : Nat → XE} {h : XH} (hp : xP g h) (he : ∀ j, j < 2 → h.2.2 j = g j) : h = xhm (fun j => if j < 2 then g j else h.2.2 j) g := by
  refine Prod.ext hp.1 (Prod.ext hp.2.1 (funext fun j => ?_))
  show h.2.2 j = if j < 525 then (if j < 2 then g j else h.2.2 j) else xe0 g j
  by_cases hj : j < 525
  · rw [if_pos hj]
    by_cases h2 : j < 2
    · rw [if_pos h2, he j h2]
    · rw [if_neg h2]
  · rw [if_neg hj]
    exact hp.2.2 j (by omega)
theorem XGp.alen {d : Nat} {M : XMeth} {pc k n len a b w : Nat} {L : XL} {st : List Value} {h : XH} {v : Option Value} {P : XH → Prop} (hm : xfind (xmT M) pc = some (pc, .arraylength, len, a, b, w)) (hx : xlen h k = some n) (g : XGp d M (pc + 1, L, .int (Int32.ofNat n) :: st, h) v P) : XGp d M (pc, L, .ref k :: st, h) v P := by
  obtain ⟨h1, p, g⟩ := g
  exact ⟨h1, p, XGo.alen hm hx g⟩
set_option maxRecDepth 100000 in
theorem law_tail (d : Nat) (xs : Nat → Int32) (h : XH) (he : h.2.2 1 = .inr (.inl (0, 5, xs))) (hk : 1 < h.1) : XGp d xm_L (1177, [some (.ref 1), some (.ref 2), some (.ref 525), some (.int (Int32.ofInt 0))], [], h) (some (.int 1)) (fun _ => True) := by
  refine XGp.go 4 rfl ?_
  refine XGp.alen rfl (xlen_i he hk (by decide)) ?_
  refine XGp.go 3 rfl ?_
  refine XGp.ifp (by decide) ?_
  refine XGp.go 1 rfl ?_
  exact XGp.iret _ rfl rfl .boolean rfl rfl rfl trivial
/-- behind the two calls: they answered alike -/
theorem law_end {d : Nat} {f0 xs : Nat → Int32} {h1 h3 : XH} {i j : Nat} {as bs : List Value} {v w : Option Value} {d1 d2 : Nat} (c1 : XCall xM d1 i as (xh0 (xg f0 xs 5)) v h1) (c3 : XCall xM d2 j bs h1 w h3) : XGp d xm_L (1177, [some (.ref 1), some (.ref 2), some (.ref 525), some (.int (Int32.ofInt 0))], [], h3) (some (.int 1)) (fun _ => True) := by
  have m1 := XCall.mono _ _ _ _ _ _ c1
  have m3 := XCall.mono _ _ _ _ _ _ c3
  have a1 : 2 ≤ h1.1 := Nat.le_trans (Nat.le_of_ble_eq_true rfl) m1.1
  have e1 := XCall.ext _ _ _ _ _ _ c1 (Nat.le_of_ble_eq_true rfl) 1 (by decide)
  have e3 := XCall.ext _ _ _ _ _ _ c3 a1 1 (by decide)
  exact law_tail d xs h3 (e3.trans (e1.trans rfl)) (Nat.lt_of_lt_of_le (by omega) m3.1)
theorem XGp.callE {d : Nat} {M : XMeth} {pc : Nat} {L : XL} {st : List Value} {h : XH} {v v1 : Option Value} {P Pc : XH → Prop} (as rest : List Value) (r : XRow) (hm : xfind (xmT M) pc = some r) (M1 : XMeth) (hM1 : xM r.2.2.2.1 = some M1) (hi : xinv r.2.1 (xmK M1) = true) (hst : st = as.reverse ++ rest) (hlen : as.length = xmN M1 + (if xmK M1 = 0 then 0 else 1)) (hrecv : xrecv M1 as h) (hcat : (rest.map fun v => v.category).sum ≤ 8)
    (hc : XCp d r.2.2.2.1 as h v1 Pc) (k : ∀ h2, Pc h2 → XCall xM d r.2.2.2.1 as h v1 h2 → XGp d M (pc + 3, L, v1.toList ++ rest, h2) v P) : XGp d M (pc, L, st, h) v P := by
  obtain ⟨h2, p2, g2⟩ := hc
  obtain ⟨h1, p, g⟩ := k h2 p2 g2
  exact ⟨h1, p, XGo.call r hm M1 hM1 hi as rest hst hlen hrecv hcat g2 g⟩
set_option maxRecDepth 100000 in
theorem law_case0 (f0 xs : Nat → Int32) : XGp 11 xm_L (32, [some (.ref 1), some (.ref 2), some (.ref 525), some (.int (Int32.ofInt 0))], [.int 0], xh0 (xg f0 xs 5)) (some (.int 1)) (fun _ => True) := by
  refine XGp.go 1 rfl ?_
  show XGp 11 xm_L (156, _, _, _) _ _
  refine XGp.go 11 rfl ?_
  refine XGp.callE [.ref 2, .int _, .int _] [] _ rfl xm_X6_person rfl rfl rfl rfl (fun _ => ⟨2, _, rfl, rfl, Nat.le_of_ble_eq_true rfl, Nat.le_of_ble_eq_true rfl⟩) (Nat.le_of_ble_eq_true rfl) (f_c_person 8 (xg f0 xs 5) _ _) (fun h1 p1 c1 => ?_)
  have e1 := xP_hm2 p1 (fun j hj => (XCall.ext _ _ _ _ _ _ c1 (Nat.le_of_ble_eq_true rfl) j hj).trans (if_pos hj))
  generalize hu : h1.2.2 = u at e1
  subst e1
  refine XGp.go 11 rfl ?_
  refine XGp.callE [.ref 525, .int _, .int _] [_] _ rfl xm_X7_person rfl rfl rfl rfl (fun _ => ⟨525, _, rfl, rfl, Nat.le_of_ble_eq_true rfl, Nat.le_of_ble_eq_true rfl⟩) (Nat.le_of_ble_eq_true rfl) (f_m_person 6 _ (xg f0 xs 5) _ _) (fun h3 p3 c3 => ?_)
  refine XGp.go 1 rfl ?_
  refine XGp.ifp (a_person _ _) ?_
  exact law_end c1 c3
set_option maxRecDepth 100000 in
theorem law_case1 (f0 xs : Nat → Int32) : XGp 11 xm_L (32, [some (.ref 1), some (.ref 2), some (.ref 525), some (.int (Int32.ofInt 0))], [.int 1], xh0 (xg f0 xs 5)) (some (.int 1)) (fun _ => True) := by
  refine XGp.go 1 rfl ?_
  show XGp 11 xm_L (189, _, _, _) _ _
  refine XGp.go 16 rfl ?_
  refine XGp.callE [.ref 2, .int _, .int _, .int _] [] _ rfl xm_X6_maybe rfl rfl rfl rfl (fun _ => ⟨2, _, rfl, rfl, Nat.le_of_ble_eq_true rfl, Nat.le_of_ble_eq_true rfl⟩) (Nat.le_of_ble_eq_true rfl) (f_c_maybe 8 (xg f0 xs 5) _ _ _) (fun h1 p1 c1 => ?_)
  have e1 := xP_hm2 p1 (fun j hj => (XCall.ext _ _ _ _ _ _ c1 (Nat.le_of_ble_eq_true rfl) j hj).trans (if_pos hj))
  generalize hu : h1.2.2 = u at e1
  subst e1
  refine XGp.go 16 rfl ?_
  refine XGp.callE [.ref 525, .int _, .int _, .int _] [_] _ rfl xm_X7_maybe rfl rfl rfl rfl (fun _ => ⟨525, _, rfl, rfl, Nat.le_of_ble_eq_true rfl, Nat.le_of_ble_eq_true rfl⟩) (Nat.le_of_ble_eq_true rfl) (f_m_maybe 6 _ (xg f0 xs 5) _ _ _) (fun h3 p3 c3 => ?_)
  refine XGp.go 1 rfl ?_
  refine XGp.ifp (a_maybe _ _ _) ?_
  exact law_end c1 c3
set_option maxRecDepth 100000 in
theorem law_case2 (f0 xs : Nat → Int32) : XGp 11 xm_L (32, [some (.ref 1), some (.ref 2), some (.ref 525), some (.int (Int32.ofInt 0))], [.int 2], xh0 (xg f0 xs 5)) (some (.int 1)) (fun _ => True) := by
  refine XGp.go 1 rfl ?_
  show XGp 11 xm_L (232, _, _, _) _ _
  refine XGp.go 21 rfl ?_
  refine XGp.callE [.ref 2, .int _, .int _, .int _, .int _] [] _ rfl xm_X6_life rfl rfl rfl rfl (fun _ => ⟨2, _, rfl, rfl, Nat.le_of_ble_eq_true rfl, Nat.le_of_ble_eq_true rfl⟩) (Nat.le_of_ble_eq_true rfl) (f_c_life 6 (xg f0 xs 5) _ _ _ _) (fun h1 p1 c1 => ?_)
  have e1 := xP_hm2 p1 (fun j hj => (XCall.ext _ _ _ _ _ _ c1 (Nat.le_of_ble_eq_true rfl) j hj).trans (if_pos hj))
  generalize hu : h1.2.2 = u at e1
  subst e1
  refine XGp.go 21 rfl ?_
  refine XGp.callE [.ref 525, .int _, .int _, .int _, .int _] [_] _ rfl xm_X7_life rfl rfl rfl rfl (fun _ => ⟨525, _, rfl, rfl, Nat.le_of_ble_eq_true rfl, Nat.le_of_ble_eq_true rfl⟩) (Nat.le_of_ble_eq_true rfl) (f_m_life 6 _ (xg f0 xs 5) _ _ _ _) (fun h3 p3 c3 => ?_)
  refine XGp.go 1 rfl ?_
  refine XGp.ifp (rfl) ?_
  exact law_end c1 c3
set_option maxRecDepth 100000 in
theorem law_case3 (f0 xs : Nat → Int32) : XGp 11 xm_L (32, [some (.ref 1), some (.ref 2), some (.ref 525), some (.int (Int32.ofInt 0))], [.int 3], xh0 (xg f0 xs 5)) (some (.int 1)) (fun _ => True) := by
  refine XGp.go 1 rfl ?_
  show XGp 11 xm_L (285, _, _, _) _ _
  refine XGp.go 23 rfl ?_
  refine XGp.callE [.ref 2, .long _, .int _] [] _ rfl xm_X6_feed rfl rfl rfl rfl (fun _ => ⟨2, _, rfl, rfl, Nat.le_of_ble_eq_true rfl, Nat.le_of_ble_eq_true rfl⟩) (Nat.le_of_ble_eq_true rfl) (f_c_feed 6 (xg f0 xs 5) _ _) (fun h1 p1 c1 => ?_)
  have e1 := xP_hm2 p1 (fun j hj => (XCall.ext _ _ _ _ _ _ c1 (Nat.le_of_ble_eq_true rfl) j hj).trans (if_pos hj))
  generalize hu : h1.2.2 = u at e1
  subst e1
  refine XGp.go 23 rfl ?_
  refine XGp.callE [.ref 525, .long _, .int _] [_] _ rfl xm_X7_feed rfl rfl rfl rfl (fun _ => ⟨525, _, rfl, rfl, Nat.le_of_ble_eq_true rfl, Nat.le_of_ble_eq_true rfl⟩) (Nat.le_of_ble_eq_true rfl) (f_m_feed 6 _ (xg f0 xs 5) _ _) (fun h3 p3 c3 => ?_)
  refine XGp.go 1 rfl ?_
  refine XGp.ifp (rfl) ?_
  exact law_end c1 c3
set_option maxRecDepth 100000 in
theorem law_case4 (f0 xs : Nat → Int32) : XGp 11 xm_L (32, [some (.ref 1), some (.ref 2), some (.ref 525), some (.int (Int32.ofInt 0))], [.int 4], xh0 (xg f0 xs 5)) (some (.int 1)) (fun _ => True) := by
  refine XGp.go 1 rfl ?_
  show XGp 11 xm_L (348, _, _, _) _ _
  refine XGp.go 1 rfl ?_
  refine XGp.callE [.ref 2] [] _ rfl xm_X6_grant rfl rfl rfl rfl (fun _ => ⟨2, _, rfl, rfl, Nat.le_of_ble_eq_true rfl, Nat.le_of_ble_eq_true rfl⟩) (Nat.le_of_ble_eq_true rfl) (f_c_grant 6 (xg f0 xs 5)) (fun h1 p1 c1 => ?_)
  have e1 := xP_hm2 p1 (fun j hj => (XCall.ext _ _ _ _ _ _ c1 (Nat.le_of_ble_eq_true rfl) j hj).trans (if_pos hj))
  generalize hu : h1.2.2 = u at e1
  subst e1
  refine XGp.go 1 rfl ?_
  refine XGp.callE [.ref 525] [_] _ rfl xm_X7_grant rfl rfl rfl rfl (fun _ => ⟨525, _, rfl, rfl, Nat.le_of_ble_eq_true rfl, Nat.le_of_ble_eq_true rfl⟩) (Nat.le_of_ble_eq_true rfl) (f_m_grant 6 _ (xg f0 xs 5)) (fun h3 p3 c3 => ?_)
  refine XGp.go 1 rfl ?_
  refine XGp.ifp (rfl) ?_
  exact law_end c1 c3
set_option maxRecDepth 100000 in
theorem law_case5 (f0 xs : Nat → Int32) : XGp 11 xm_L (32, [some (.ref 1), some (.ref 2), some (.ref 525), some (.int (Int32.ofInt 0))], [.int 5], xh0 (xg f0 xs 5)) (some (.int 1)) (fun _ => True) := by
  refine XGp.go 1 rfl ?_
  show XGp 11 xm_L (361, _, _, _) _ _
  refine XGp.go 11 rfl ?_
  refine XGp.callE [.ref 2, .int _, .int _] [] _ rfl xm_X6_told rfl rfl rfl rfl (fun _ => ⟨2, _, rfl, rfl, Nat.le_of_ble_eq_true rfl, Nat.le_of_ble_eq_true rfl⟩) (Nat.le_of_ble_eq_true rfl) (f_c_told 9 (xg f0 xs 5) _ _) (fun h1 p1 c1 => ?_)
  have e1 := xP_hm2 p1 (fun j hj => (XCall.ext _ _ _ _ _ _ c1 (Nat.le_of_ble_eq_true rfl) j hj).trans (if_pos hj))
  generalize hu : h1.2.2 = u at e1
  subst e1
  refine XGp.go 11 rfl ?_
  refine XGp.callE [.ref 525, .int _, .int _] [_] _ rfl xm_X7_told rfl rfl rfl rfl (fun _ => ⟨525, _, rfl, rfl, Nat.le_of_ble_eq_true rfl, Nat.le_of_ble_eq_true rfl⟩) (Nat.le_of_ble_eq_true rfl) (f_m_told 7 _ (xg f0 xs 5) _ _) (fun h3 p3 c3 => ?_)
  refine XGp.go 1 rfl ?_
  refine XGp.ifp (rfl) ?_
  exact law_end c1 c3
set_option maxRecDepth 100000 in
theorem law_case6 (f0 xs : Nat → Int32) : XGp 11 xm_L (32, [some (.ref 1), some (.ref 2), some (.ref 525), some (.int (Int32.ofInt 0))], [.int 6], xh0 (xg f0 xs 5)) (some (.int 1)) (fun _ => True) := by
  refine XGp.go 1 rfl ?_
  show XGp 11 xm_L (394, _, _, _) _ _
  refine XGp.go 21 rfl ?_
  refine XGp.callE [.ref 2, .int _, .int _, .int _, .int _] [] _ rfl xm_X6_has rfl rfl rfl rfl (fun _ => ⟨2, _, rfl, rfl, Nat.le_of_ble_eq_true rfl, Nat.le_of_ble_eq_true rfl⟩) (Nat.le_of_ble_eq_true rfl) (f_c_has 9 (xg f0 xs 5) _ _ _ _) (fun h1 p1 c1 => ?_)
  have e1 := xP_hm2 p1 (fun j hj => (XCall.ext _ _ _ _ _ _ c1 (Nat.le_of_ble_eq_true rfl) j hj).trans (if_pos hj))
  generalize hu : h1.2.2 = u at e1
  subst e1
  refine XGp.go 21 rfl ?_
  refine XGp.callE [.ref 525, .int _, .int _, .int _, .int _] [_] _ rfl xm_X7_has rfl rfl rfl rfl (fun _ => ⟨525, _, rfl, rfl, Nat.le_of_ble_eq_true rfl, Nat.le_of_ble_eq_true rfl⟩) (Nat.le_of_ble_eq_true rfl) (f_m_has 7 _ (xg f0 xs 5) _ _ _ _) (fun h3 p3 c3 => ?_)
  refine XGp.go 1 rfl ?_
  refine XGp.ifp (rfl) ?_
  exact law_end c1 c3
set_option maxRecDepth 100000 in
theorem law_case7 (f0 xs : Nat → Int32) : XGp 11 xm_L (32, [some (.ref 1), some (.ref 2), some (.ref 525), some (.int (Int32.ofInt 0))], [.int 7], xh0 (xg f0 xs 5)) (some (.int 1)) (fun _ => True) := by
  refine XGp.go 1 rfl ?_
  show XGp 11 xm_L (447, _, _, _) _ _
  refine XGp.go 16 rfl ?_
  refine XGp.callE [.ref 2, .int _, .int _, .int _] [] _ rfl xm_X6_began rfl rfl rfl rfl (fun _ => ⟨2, _, rfl, rfl, Nat.le_of_ble_eq_true rfl, Nat.le_of_ble_eq_true rfl⟩) (Nat.le_of_ble_eq_true rfl) (f_c_began 9 (xg f0 xs 5) _ _ _) (fun h1 p1 c1 => ?_)
  have e1 := xP_hm2 p1 (fun j hj => (XCall.ext _ _ _ _ _ _ c1 (Nat.le_of_ble_eq_true rfl) j hj).trans (if_pos hj))
  generalize hu : h1.2.2 = u at e1
  subst e1
  refine XGp.go 16 rfl ?_
  refine XGp.callE [.ref 525, .int _, .int _, .int _] [_] _ rfl xm_X7_began rfl rfl rfl rfl (fun _ => ⟨525, _, rfl, rfl, Nat.le_of_ble_eq_true rfl, Nat.le_of_ble_eq_true rfl⟩) (Nat.le_of_ble_eq_true rfl) (f_m_began 7 _ (xg f0 xs 5) _ _ _) (fun h3 p3 c3 => ?_)
  refine XGp.go 1 rfl ?_
  refine XGp.ifp (rfl) ?_
  exact law_end c1 c3
set_option maxRecDepth 100000 in
theorem law_case8 (f0 xs : Nat → Int32) : XGp 11 xm_L (32, [some (.ref 1), some (.ref 2), some (.ref 525), some (.int (Int32.ofInt 0))], [.int 8], xh0 (xg f0 xs 5)) (some (.int 1)) (fun _ => True) := by
  refine XGp.go 1 rfl ?_
  show XGp 11 xm_L (490, _, _, _) _ _
  refine XGp.go 16 rfl ?_
  refine XGp.callE [.ref 2, .int _, .int _, .int _] [] _ rfl xm_X6_sure rfl rfl rfl rfl (fun _ => ⟨2, _, rfl, rfl, Nat.le_of_ble_eq_true rfl, Nat.le_of_ble_eq_true rfl⟩) (Nat.le_of_ble_eq_true rfl) (f_c_sure 9 (xg f0 xs 5) _ _ _) (fun h1 p1 c1 => ?_)
  have e1 := xP_hm2 p1 (fun j hj => (XCall.ext _ _ _ _ _ _ c1 (Nat.le_of_ble_eq_true rfl) j hj).trans (if_pos hj))
  generalize hu : h1.2.2 = u at e1
  subst e1
  refine XGp.go 16 rfl ?_
  refine XGp.callE [.ref 525, .int _, .int _, .int _] [_] _ rfl xm_X7_sure rfl rfl rfl rfl (fun _ => ⟨525, _, rfl, rfl, Nat.le_of_ble_eq_true rfl, Nat.le_of_ble_eq_true rfl⟩) (Nat.le_of_ble_eq_true rfl) (f_m_sure 7 _ (xg f0 xs 5) _ _ _) (fun h3 p3 c3 => ?_)
  refine XGp.go 1 rfl ?_
  refine XGp.ifp (rfl) ?_
  exact law_end c1 c3
set_option maxRecDepth 100000 in
theorem law_case9 (f0 xs : Nat → Int32) : XGp 11 xm_L (32, [some (.ref 1), some (.ref 2), some (.ref 525), some (.int (Int32.ofInt 0))], [.int 9], xh0 (xg f0 xs 5)) (some (.int 1)) (fun _ => True) := by
  refine XGp.go 1 rfl ?_
  show XGp 11 xm_L (533, _, _, _) _ _
  refine XGp.go 11 rfl ?_
  refine XGp.callE [.ref 2, .int _, .int _] [] _ rfl xm_X6_holders rfl rfl rfl rfl (fun _ => ⟨2, _, rfl, rfl, Nat.le_of_ble_eq_true rfl, Nat.le_of_ble_eq_true rfl⟩) (Nat.le_of_ble_eq_true rfl) (f_c_holders 9 (xg f0 xs 5) _ _) (fun h1 p1 c1 => ?_)
  have e1 := xP_hm2 p1 (fun j hj => (XCall.ext _ _ _ _ _ _ c1 (Nat.le_of_ble_eq_true rfl) j hj).trans (if_pos hj))
  generalize hu : h1.2.2 = u at e1
  subst e1
  refine XGp.go 11 rfl ?_
  refine XGp.callE [.ref 525, .int _, .int _] [_] _ rfl xm_X7_holders rfl rfl rfl rfl (fun _ => ⟨525, _, rfl, rfl, Nat.le_of_ble_eq_true rfl, Nat.le_of_ble_eq_true rfl⟩) (Nat.le_of_ble_eq_true rfl) (f_m_holders 7 _ (xg f0 xs 5) _ _) (fun h3 p3 c3 => ?_)
  refine XGp.go 1 rfl ?_
  refine XGp.ifp (rfl) ?_
  exact law_end c1 c3
set_option maxRecDepth 100000 in
theorem law_case10 (f0 xs : Nat → Int32) : XGp 11 xm_L (32, [some (.ref 1), some (.ref 2), some (.ref 525), some (.int (Int32.ofInt 0))], [.int 10], xh0 (xg f0 xs 5)) (some (.int 1)) (fun _ => True) := by
  refine XGp.go 1 rfl ?_
  show XGp 11 xm_L (566, _, _, _) _ _
  refine XGp.go 21 rfl ?_
  refine XGp.callE [.ref 2, .int _, .int _, .int _, .int _] [] _ rfl xm_X6_share rfl rfl rfl rfl (fun _ => ⟨2, _, rfl, rfl, Nat.le_of_ble_eq_true rfl, Nat.le_of_ble_eq_true rfl⟩) (Nat.le_of_ble_eq_true rfl) (f_c_share 9 (xg f0 xs 5) _ _ _ _) (fun h1 p1 c1 => ?_)
  have e1 := xP_hm2 p1 (fun j hj => (XCall.ext _ _ _ _ _ _ c1 (Nat.le_of_ble_eq_true rfl) j hj).trans (if_pos hj))
  generalize hu : h1.2.2 = u at e1
  subst e1
  refine XGp.go 21 rfl ?_
  refine XGp.callE [.ref 525, .int _, .int _, .int _, .int _] [_] _ rfl xm_X7_share rfl rfl rfl rfl (fun _ => ⟨525, _, rfl, rfl, Nat.le_of_ble_eq_true rfl, Nat.le_of_ble_eq_true rfl⟩) (Nat.le_of_ble_eq_true rfl) (f_m_share 7 _ (xg f0 xs 5) _ _ _ _) (fun h3 p3 c3 => ?_)
  refine XGp.go 1 rfl ?_
  refine XGp.ifp (rfl) ?_
  exact law_end c1 c3
set_option maxRecDepth 100000 in
theorem law_case11 (f0 xs : Nat → Int32) : XGp 11 xm_L (32, [some (.ref 1), some (.ref 2), some (.ref 525), some (.int (Int32.ofInt 0))], [.int 11], xh0 (xg f0 xs 5)) (some (.int 1)) (fun _ => True) := by
  refine XGp.go 1 rfl ?_
  show XGp 11 xm_L (619, _, _, _) _ _
  refine XGp.go 11 rfl ?_
  refine XGp.callE [.ref 2, .int _, .int _] [] _ rfl xm_X6_judged rfl rfl rfl rfl (fun _ => ⟨2, _, rfl, rfl, Nat.le_of_ble_eq_true rfl, Nat.le_of_ble_eq_true rfl⟩) (Nat.le_of_ble_eq_true rfl) (f_c_judged 9 (xg f0 xs 5) _ _) (fun h1 p1 c1 => ?_)
  have e1 := xP_hm2 p1 (fun j hj => (XCall.ext _ _ _ _ _ _ c1 (Nat.le_of_ble_eq_true rfl) j hj).trans (if_pos hj))
  generalize hu : h1.2.2 = u at e1
  subst e1
  refine XGp.go 11 rfl ?_
  refine XGp.callE [.ref 525, .int _, .int _] [_] _ rfl xm_X7_judged rfl rfl rfl rfl (fun _ => ⟨525, _, rfl, rfl, Nat.le_of_ble_eq_true rfl, Nat.le_of_ble_eq_true rfl⟩) (Nat.le_of_ble_eq_true rfl) (f_m_judged 7 _ (xg f0 xs 5) _ _) (fun h3 p3 c3 => ?_)
  refine XGp.go 1 rfl ?_
  refine XGp.ifp (rfl) ?_
  exact law_end c1 c3
set_option maxRecDepth 100000 in
theorem law_case12 (f0 xs : Nat → Int32) : XGp 11 xm_L (32, [some (.ref 1), some (.ref 2), some (.ref 525), some (.int (Int32.ofInt 0))], [.int 12], xh0 (xg f0 xs 5)) (some (.int 1)) (fun _ => True) := by
  refine XGp.go 1 rfl ?_
  show XGp 11 xm_L (652, _, _, _) _ _
  refine XGp.go 6 rfl ?_
  refine XGp.callE [.ref 2, .int _] [] _ rfl xm_X6_row rfl rfl rfl rfl (fun _ => ⟨2, _, rfl, rfl, Nat.le_of_ble_eq_true rfl, Nat.le_of_ble_eq_true rfl⟩) (Nat.le_of_ble_eq_true rfl) (f_c_row 8 (xg f0 xs 5) _) (fun h1 p1 c1 => ?_)
  have e1 := xP_hm2 p1 (fun j hj => (XCall.ext _ _ _ _ _ _ c1 (Nat.le_of_ble_eq_true rfl) j hj).trans (if_pos hj))
  generalize hu : h1.2.2 = u at e1
  subst e1
  refine XGp.go 6 rfl ?_
  refine XGp.callE [.ref 525, .int _] [_] _ rfl xm_X7_row rfl rfl rfl rfl (fun _ => ⟨525, _, rfl, rfl, Nat.le_of_ble_eq_true rfl, Nat.le_of_ble_eq_true rfl⟩) (Nat.le_of_ble_eq_true rfl) (f_m_row 6 _ (xg f0 xs 5) _) (fun h3 p3 c3 => ?_)
  refine XGp.go 1 rfl ?_
  refine XGp.ifp (a_row _) ?_
  exact law_end c1 c3
set_option maxRecDepth 100000 in
theorem law_case13 (f0 xs : Nat → Int32) : XGp 11 xm_L (32, [some (.ref 1), some (.ref 2), some (.ref 525), some (.int (Int32.ofInt 0))], [.int 13], xh0 (xg f0 xs 5)) (some (.int 1)) (fun _ => True) := by
  refine XGp.go 1 rfl ?_
  show XGp 11 xm_L (675, _, _, _) _ _
  refine XGp.go 21 rfl ?_
  refine XGp.callE [.ref 2, .int _, .int _, .int _, .int _] [] _ rfl xm_X6_late rfl rfl rfl rfl (fun _ => ⟨2, _, rfl, rfl, Nat.le_of_ble_eq_true rfl, Nat.le_of_ble_eq_true rfl⟩) (Nat.le_of_ble_eq_true rfl) (f_c_late 9 (xg f0 xs 5) _ _ _ _) (fun h1 p1 c1 => ?_)
  have e1 := xP_hm2 p1 (fun j hj => (XCall.ext _ _ _ _ _ _ c1 (Nat.le_of_ble_eq_true rfl) j hj).trans (if_pos hj))
  generalize hu : h1.2.2 = u at e1
  subst e1
  refine XGp.go 21 rfl ?_
  refine XGp.callE [.ref 525, .int _, .int _, .int _, .int _] [_] _ rfl xm_X7_late rfl rfl rfl rfl (fun _ => ⟨525, _, rfl, rfl, Nat.le_of_ble_eq_true rfl, Nat.le_of_ble_eq_true rfl⟩) (Nat.le_of_ble_eq_true rfl) (f_m_late 7 _ (xg f0 xs 5) _ _ _ _) (fun h3 p3 c3 => ?_)
  refine XGp.go 1 rfl ?_
  refine XGp.ifp (rfl) ?_
  exact law_end c1 c3
set_option maxRecDepth 100000 in
theorem law_case14 (f0 xs : Nat → Int32) : XGp 11 xm_L (32, [some (.ref 1), some (.ref 2), some (.ref 525), some (.int (Int32.ofInt 0))], [.int 14], xh0 (xg f0 xs 5)) (some (.int 1)) (fun _ => True) := by
  refine XGp.go 1 rfl ?_
  show XGp 11 xm_L (728, _, _, _) _ _
  refine XGp.go 6 rfl ?_
  refine XGp.callE [.ref 2, .int _] [] _ rfl xm_X6_measure rfl rfl rfl rfl (fun _ => ⟨2, _, rfl, rfl, Nat.le_of_ble_eq_true rfl, Nat.le_of_ble_eq_true rfl⟩) (Nat.le_of_ble_eq_true rfl) (f_c_measure 6 (xg f0 xs 5) _) (fun h1 p1 c1 => ?_)
  have e1 := xP_hm2 p1 (fun j hj => (XCall.ext _ _ _ _ _ _ c1 (Nat.le_of_ble_eq_true rfl) j hj).trans (if_pos hj))
  generalize hu : h1.2.2 = u at e1
  subst e1
  refine XGp.go 6 rfl ?_
  refine XGp.callE [.ref 525, .int _] [_] _ rfl xm_X7_measure rfl rfl rfl rfl (fun _ => ⟨525, _, rfl, rfl, Nat.le_of_ble_eq_true rfl, Nat.le_of_ble_eq_true rfl⟩) (Nat.le_of_ble_eq_true rfl) (f_m_measure 6 _ (xg f0 xs 5) _) (fun h3 p3 c3 => ?_)
  refine XGp.go 1 rfl ?_
  refine XGp.ifp (rfl) ?_
  exact law_end c1 c3
set_option maxRecDepth 100000 in
theorem law_case15 (f0 xs : Nat → Int32) : XGp 11 xm_L (32, [some (.ref 1), some (.ref 2), some (.ref 525), some (.int (Int32.ofInt 0))], [.int 15], xh0 (xg f0 xs 5)) (some (.int 1)) (fun _ => True) := by
  refine XGp.go 1 rfl ?_
  show XGp 11 xm_L (751, _, _, _) _ _
  refine XGp.go 21 rfl ?_
  refine XGp.callE [.ref 2, .int _, .int _, .int _, .int _] [] _ rfl xm_X6_see rfl rfl rfl rfl (fun _ => ⟨2, _, rfl, rfl, Nat.le_of_ble_eq_true rfl, Nat.le_of_ble_eq_true rfl⟩) (Nat.le_of_ble_eq_true rfl) (f_c_see 9 (xg f0 xs 5) _ _ _ _) (fun h1 p1 c1 => ?_)
  have e1 := xP_hm2 p1 (fun j hj => (XCall.ext _ _ _ _ _ _ c1 (Nat.le_of_ble_eq_true rfl) j hj).trans (if_pos hj))
  generalize hu : h1.2.2 = u at e1
  subst e1
  refine XGp.go 21 rfl ?_
  refine XGp.callE [.ref 525, .int _, .int _, .int _, .int _] [_] _ rfl xm_X7_see rfl rfl rfl rfl (fun _ => ⟨525, _, rfl, rfl, Nat.le_of_ble_eq_true rfl, Nat.le_of_ble_eq_true rfl⟩) (Nat.le_of_ble_eq_true rfl) (f_m_see 7 _ (xg f0 xs 5) _ _ _ _) (fun h3 p3 c3 => ?_)
  refine XGp.go 1 rfl ?_
  refine XGp.ifp (rfl) ?_
  exact law_end c1 c3
set_option maxRecDepth 100000 in
theorem law_case16 (f0 xs : Nat → Int32) : XGp 11 xm_L (32, [some (.ref 1), some (.ref 2), some (.ref 525), some (.int (Int32.ofInt 0))], [.int 16], xh0 (xg f0 xs 5)) (some (.int 1)) (fun _ => True) := by
  refine XGp.go 1 rfl ?_
  show XGp 11 xm_L (804, _, _, _) _ _
  refine XGp.go 11 rfl ?_
  refine XGp.callE [.ref 2, .int _, .int _] [] _ rfl xm_X6_strike rfl rfl rfl rfl (fun _ => ⟨2, _, rfl, rfl, Nat.le_of_ble_eq_true rfl, Nat.le_of_ble_eq_true rfl⟩) (Nat.le_of_ble_eq_true rfl) (f_c_strike 9 (xg f0 xs 5) _ _) (fun h1 p1 c1 => ?_)
  have e1 := xP_hm2 p1 (fun j hj => (XCall.ext _ _ _ _ _ _ c1 (Nat.le_of_ble_eq_true rfl) j hj).trans (if_pos hj))
  generalize hu : h1.2.2 = u at e1
  subst e1
  refine XGp.go 11 rfl ?_
  refine XGp.callE [.ref 525, .int _, .int _] [_] _ rfl xm_X7_strike rfl rfl rfl rfl (fun _ => ⟨525, _, rfl, rfl, Nat.le_of_ble_eq_true rfl, Nat.le_of_ble_eq_true rfl⟩) (Nat.le_of_ble_eq_true rfl) (f_m_strike 7 _ (xg f0 xs 5) _ _) (fun h3 p3 c3 => ?_)
  refine XGp.go 1 rfl ?_
  refine XGp.ifp (rfl) ?_
  exact law_end c1 c3
set_option maxRecDepth 100000 in
theorem law_case17 (f0 xs : Nat → Int32) : XGp 11 xm_L (32, [some (.ref 1), some (.ref 2), some (.ref 525), some (.int (Int32.ofInt 0))], [.int 17], xh0 (xg f0 xs 5)) (some (.int 1)) (fun _ => True) := by
  refine XGp.go 1 rfl ?_
  show XGp 11 xm_L (837, _, _, _) _ _
  refine XGp.go 16 rfl ?_
  refine XGp.callE [.ref 2, .int _, .int _, .int _] [] _ rfl xm_X6_mend rfl rfl rfl rfl (fun _ => ⟨2, _, rfl, rfl, Nat.le_of_ble_eq_true rfl, Nat.le_of_ble_eq_true rfl⟩) (Nat.le_of_ble_eq_true rfl) (f_c_mend 9 (xg f0 xs 5) _ _ _) (fun h1 p1 c1 => ?_)
  have e1 := xP_hm2 p1 (fun j hj => (XCall.ext _ _ _ _ _ _ c1 (Nat.le_of_ble_eq_true rfl) j hj).trans (if_pos hj))
  generalize hu : h1.2.2 = u at e1
  subst e1
  refine XGp.go 16 rfl ?_
  refine XGp.callE [.ref 525, .int _, .int _, .int _] [_] _ rfl xm_X7_mend rfl rfl rfl rfl (fun _ => ⟨525, _, rfl, rfl, Nat.le_of_ble_eq_true rfl, Nat.le_of_ble_eq_true rfl⟩) (Nat.le_of_ble_eq_true rfl) (f_m_mend 7 _ (xg f0 xs 5) _ _ _) (fun h3 p3 c3 => ?_)
  refine XGp.go 1 rfl ?_
  refine XGp.ifp (rfl) ?_
  exact law_end c1 c3
set_option maxRecDepth 100000 in
theorem law_case18 (f0 xs : Nat → Int32) : XGp 11 xm_L (32, [some (.ref 1), some (.ref 2), some (.ref 525), some (.int (Int32.ofInt 0))], [.int 18], xh0 (xg f0 xs 5)) (some (.int 1)) (fun _ => True) := by
  refine XGp.go 1 rfl ?_
  show XGp 11 xm_L (880, _, _, _) _ _
  refine XGp.go 21 rfl ?_
  refine XGp.callE [.ref 2, .int _, .int _, .int _, .int _] [] _ rfl xm_X6_both rfl rfl rfl rfl (fun _ => ⟨2, _, rfl, rfl, Nat.le_of_ble_eq_true rfl, Nat.le_of_ble_eq_true rfl⟩) (Nat.le_of_ble_eq_true rfl) (f_c_both 9 (xg f0 xs 5) _ _ _ _) (fun h1 p1 c1 => ?_)
  have e1 := xP_hm2 p1 (fun j hj => (XCall.ext _ _ _ _ _ _ c1 (Nat.le_of_ble_eq_true rfl) j hj).trans (if_pos hj))
  generalize hu : h1.2.2 = u at e1
  subst e1
  refine XGp.go 21 rfl ?_
  refine XGp.callE [.ref 525, .int _, .int _, .int _, .int _] [_] _ rfl xm_X7_both rfl rfl rfl rfl (fun _ => ⟨525, _, rfl, rfl, Nat.le_of_ble_eq_true rfl, Nat.le_of_ble_eq_true rfl⟩) (Nat.le_of_ble_eq_true rfl) (f_m_both 7 _ (xg f0 xs 5) _ _ _ _) (fun h3 p3 c3 => ?_)
  refine XGp.go 1 rfl ?_
  refine XGp.ifp (rfl) ?_
  exact law_end c1 c3
set_option maxRecDepth 100000 in
theorem law_case19 (f0 xs : Nat → Int32) : XGp 11 xm_L (32, [some (.ref 1), some (.ref 2), some (.ref 525), some (.int (Int32.ofInt 0))], [.int 19], xh0 (xg f0 xs 5)) (some (.int 1)) (fun _ => True) := by
  refine XGp.go 1 rfl ?_
  show XGp 11 xm_L (933, _, _, _) _ _
  refine XGp.go 16 rfl ?_
  refine XGp.callE [.ref 2, .int _, .int _, .int _] [] _ rfl xm_X6_clash rfl rfl rfl rfl (fun _ => ⟨2, _, rfl, rfl, Nat.le_of_ble_eq_true rfl, Nat.le_of_ble_eq_true rfl⟩) (Nat.le_of_ble_eq_true rfl) (f_c_clash 9 (xg f0 xs 5) _ _ _) (fun h1 p1 c1 => ?_)
  have e1 := xP_hm2 p1 (fun j hj => (XCall.ext _ _ _ _ _ _ c1 (Nat.le_of_ble_eq_true rfl) j hj).trans (if_pos hj))
  generalize hu : h1.2.2 = u at e1
  subst e1
  refine XGp.go 16 rfl ?_
  refine XGp.callE [.ref 525, .int _, .int _, .int _] [_] _ rfl xm_X7_clash rfl rfl rfl rfl (fun _ => ⟨525, _, rfl, rfl, Nat.le_of_ble_eq_true rfl, Nat.le_of_ble_eq_true rfl⟩) (Nat.le_of_ble_eq_true rfl) (f_m_clash 7 _ (xg f0 xs 5) _ _ _) (fun h3 p3 c3 => ?_)
  refine XGp.go 1 rfl ?_
  refine XGp.ifp (rfl) ?_
  exact law_end c1 c3
set_option maxRecDepth 100000 in
theorem law_case20 (f0 xs : Nat → Int32) : XGp 11 xm_L (32, [some (.ref 1), some (.ref 2), some (.ref 525), some (.int (Int32.ofInt 0))], [.int 20], xh0 (xg f0 xs 5)) (some (.int 1)) (fun _ => True) := by
  refine XGp.go 1 rfl ?_
  show XGp 11 xm_L (976, _, _, _) _ _
  refine XGp.go 11 rfl ?_
  refine XGp.callE [.ref 2, .int _, .int _] [] _ rfl xm_X6_same rfl rfl rfl rfl (fun _ => ⟨2, _, rfl, rfl, Nat.le_of_ble_eq_true rfl, Nat.le_of_ble_eq_true rfl⟩) (Nat.le_of_ble_eq_true rfl) (f_c_same 9 (xg f0 xs 5) _ _) (fun h1 p1 c1 => ?_)
  have e1 := xP_hm2 p1 (fun j hj => (XCall.ext _ _ _ _ _ _ c1 (Nat.le_of_ble_eq_true rfl) j hj).trans (if_pos hj))
  generalize hu : h1.2.2 = u at e1
  subst e1
  refine XGp.go 11 rfl ?_
  refine XGp.callE [.ref 525, .int _, .int _] [_] _ rfl xm_X7_same rfl rfl rfl rfl (fun _ => ⟨525, _, rfl, rfl, Nat.le_of_ble_eq_true rfl, Nat.le_of_ble_eq_true rfl⟩) (Nat.le_of_ble_eq_true rfl) (f_m_same 7 _ (xg f0 xs 5) _ _) (fun h3 p3 c3 => ?_)
  refine XGp.go 1 rfl ?_
  refine XGp.ifp (rfl) ?_
  exact law_end c1 c3
set_option maxRecDepth 100000 in
theorem law_case21 (f0 xs : Nat → Int32) : XGp 11 xm_L (32, [some (.ref 1), some (.ref 2), some (.ref 525), some (.int (Int32.ofInt 0))], [.int 21], xh0 (xg f0 xs 5)) (some (.int 1)) (fun _ => True) := by
  refine XGp.go 1 rfl ?_
  show XGp 11 xm_L (1009, _, _, _) _ _
  refine XGp.go 21 rfl ?_
  refine XGp.callE [.ref 2, .int _, .int _, .int _, .int _] [] _ rfl xm_X6_act rfl rfl rfl rfl (fun _ => ⟨2, _, rfl, rfl, Nat.le_of_ble_eq_true rfl, Nat.le_of_ble_eq_true rfl⟩) (Nat.le_of_ble_eq_true rfl) (f_c_act 9 (xg f0 xs 5) _ _ _ _) (fun h1 p1 c1 => ?_)
  have e1 := xP_hm2 p1 (fun j hj => (XCall.ext _ _ _ _ _ _ c1 (Nat.le_of_ble_eq_true rfl) j hj).trans (if_pos hj))
  generalize hu : h1.2.2 = u at e1
  subst e1
  refine XGp.go 21 rfl ?_
  refine XGp.callE [.ref 525, .int _, .int _, .int _, .int _] [_] _ rfl xm_X7_act rfl rfl rfl rfl (fun _ => ⟨525, _, rfl, rfl, Nat.le_of_ble_eq_true rfl, Nat.le_of_ble_eq_true rfl⟩) (Nat.le_of_ble_eq_true rfl) (f_m_act 7 _ (xg f0 xs 5) _ _ _ _) (fun h3 p3 c3 => ?_)
  refine XGp.go 1 rfl ?_
  refine XGp.ifp (rfl) ?_
  exact law_end c1 c3
set_option maxRecDepth 100000 in
theorem law_case22 (f0 xs : Nat → Int32) : XGp 11 xm_L (32, [some (.ref 1), some (.ref 2), some (.ref 525), some (.int (Int32.ofInt 0))], [.int 22], xh0 (xg f0 xs 5)) (some (.int 1)) (fun _ => True) := by
  refine XGp.go 1 rfl ?_
  show XGp 11 xm_L (1062, _, _, _) _ _
  refine XGp.go 6 rfl ?_
  refine XGp.callE [.ref 2, .int _] [] _ rfl xm_X6_trace rfl rfl rfl rfl (fun _ => ⟨2, _, rfl, rfl, Nat.le_of_ble_eq_true rfl, Nat.le_of_ble_eq_true rfl⟩) (Nat.le_of_ble_eq_true rfl) (f_c_trace 9 (xg f0 xs 5) _) (fun h1 p1 c1 => ?_)
  have e1 := xP_hm2 p1 (fun j hj => (XCall.ext _ _ _ _ _ _ c1 (Nat.le_of_ble_eq_true rfl) j hj).trans (if_pos hj))
  generalize hu : h1.2.2 = u at e1
  subst e1
  refine XGp.go 6 rfl ?_
  refine XGp.callE [.ref 525, .int _] [_] _ rfl xm_X7_trace rfl rfl rfl rfl (fun _ => ⟨525, _, rfl, rfl, Nat.le_of_ble_eq_true rfl, Nat.le_of_ble_eq_true rfl⟩) (Nat.le_of_ble_eq_true rfl) (f_m_trace 7 _ (xg f0 xs 5) _) (fun h3 p3 c3 => ?_)
  refine XGp.go 1 rfl ?_
  refine XGp.ifp (rfl) ?_
  exact law_end c1 c3
set_option maxRecDepth 100000 in
theorem law_case23 (f0 xs : Nat → Int32) : XGp 11 xm_L (32, [some (.ref 1), some (.ref 2), some (.ref 525), some (.int (Int32.ofInt 0))], [.int 23], xh0 (xg f0 xs 5)) (some (.int 1)) (fun _ => True) := by
  refine XGp.go 1 rfl ?_
  show XGp 11 xm_L (1085, _, _, _) _ _
  refine XGp.go 16 rfl ?_
  refine XGp.callE [.ref 2, .int _, .int _, .int _] [] _ rfl xm_X6_as rfl rfl rfl rfl (fun _ => ⟨2, _, rfl, rfl, Nat.le_of_ble_eq_true rfl, Nat.le_of_ble_eq_true rfl⟩) (Nat.le_of_ble_eq_true rfl) (f_c_as 9 (xg f0 xs 5) _ _ _) (fun h1 p1 c1 => ?_)
  have e1 := xP_hm2 p1 (fun j hj => (XCall.ext _ _ _ _ _ _ c1 (Nat.le_of_ble_eq_true rfl) j hj).trans (if_pos hj))
  generalize hu : h1.2.2 = u at e1
  subst e1
  refine XGp.go 16 rfl ?_
  refine XGp.callE [.ref 525, .int _, .int _, .int _] [_] _ rfl xm_X7_as rfl rfl rfl rfl (fun _ => ⟨525, _, rfl, rfl, Nat.le_of_ble_eq_true rfl, Nat.le_of_ble_eq_true rfl⟩) (Nat.le_of_ble_eq_true rfl) (f_m_as 7 _ (xg f0 xs 5) _ _ _) (fun h3 p3 c3 => ?_)
  refine XGp.go 1 rfl ?_
  refine XGp.ifp (rfl) ?_
  exact law_end c1 c3
set_option maxRecDepth 100000 in
theorem law_case24 (f0 xs : Nat → Int32) : XGp 11 xm_L (32, [some (.ref 1), some (.ref 2), some (.ref 525), some (.int (Int32.ofInt 0))], [.int 24], xh0 (xg f0 xs 5)) (some (.int 1)) (fun _ => True) := by
  refine XGp.go 1 rfl ?_
  show XGp 11 xm_L (1128, _, _, _) _ _
  refine XGp.go 1 rfl ?_
  refine XGp.callE [.ref 2] [] _ rfl xm_X6_image rfl rfl rfl rfl (fun _ => ⟨2, _, rfl, rfl, Nat.le_of_ble_eq_true rfl, Nat.le_of_ble_eq_true rfl⟩) (Nat.le_of_ble_eq_true rfl) (f_c_image 6 (xg f0 xs 5)) (fun h1 p1 c1 => ?_)
  have e1 := xP_hm2 p1 (fun j hj => (XCall.ext _ _ _ _ _ _ c1 (Nat.le_of_ble_eq_true rfl) j hj).trans (if_pos hj))
  generalize hu : h1.2.2 = u at e1
  subst e1
  refine XGp.go 1 rfl ?_
  refine XGp.callE [.ref 525] [_] _ rfl xm_X7_image rfl rfl rfl rfl (fun _ => ⟨525, _, rfl, rfl, Nat.le_of_ble_eq_true rfl, Nat.le_of_ble_eq_true rfl⟩) (Nat.le_of_ble_eq_true rfl) (f_m_image 6 _ (xg f0 xs 5)) (fun h3 p3 c3 => ?_)
  refine XGp.go 1 rfl ?_
  refine XGp.ifp (rfl) ?_
  exact law_end c1 c3
set_option maxRecDepth 100000 in
theorem law_case25 (f0 xs : Nat → Int32) : XGp 11 xm_L (32, [some (.ref 1), some (.ref 2), some (.ref 525), some (.int (Int32.ofInt 0))], [.int 25], xh0 (xg f0 xs 5)) (some (.int 1)) (fun _ => True) := by
  refine XGp.go 1 rfl ?_
  show XGp 11 xm_L (1141, _, _, _) _ _
  refine XGp.go 1 rfl ?_
  refine XGp.callE [.ref 2] [] _ rfl xm_X6_undo rfl rfl rfl rfl (fun _ => ⟨2, _, rfl, rfl, Nat.le_of_ble_eq_true rfl, Nat.le_of_ble_eq_true rfl⟩) (Nat.le_of_ble_eq_true rfl) (f_c_undo 9 (xg f0 xs 5)) (fun h1 p1 c1 => ?_)
  have e1 := xP_hm2 p1 (fun j hj => (XCall.ext _ _ _ _ _ _ c1 (Nat.le_of_ble_eq_true rfl) j hj).trans (if_pos hj))
  generalize hu : h1.2.2 = u at e1
  subst e1
  refine XGp.go 1 rfl ?_
  refine XGp.callE [.ref 525] [_] _ rfl xm_X7_undo rfl rfl rfl rfl (fun _ => ⟨525, _, rfl, rfl, Nat.le_of_ble_eq_true rfl, Nat.le_of_ble_eq_true rfl⟩) (Nat.le_of_ble_eq_true rfl) (f_m_undo 7 _ (xg f0 xs 5)) (fun h3 p3 c3 => ?_)
  refine XGp.go 1 rfl ?_
  refine XGp.ifp (rfl) ?_
  exact law_end c1 c3
set_option maxRecDepth 100000 in
theorem law_case26 (f0 xs : Nat → Int32) : XGp 11 xm_L (32, [some (.ref 1), some (.ref 2), some (.ref 525), some (.int (Int32.ofInt 0))], [.int 26], xh0 (xg f0 xs 5)) (some (.int 1)) (fun _ => True) := by
  refine XGp.go 1 rfl ?_
  show XGp 11 xm_L (1154, _, _, _) _ _
  refine XGp.go 6 rfl ?_
  refine XGp.callE [.ref 2, .int _] [] _ rfl xm_X6_count rfl rfl rfl rfl (fun _ => ⟨2, _, rfl, rfl, Nat.le_of_ble_eq_true rfl, Nat.le_of_ble_eq_true rfl⟩) (Nat.le_of_ble_eq_true rfl) (f_c_count 9 (xg f0 xs 5) _) (fun h1 p1 c1 => ?_)
  have e1 := xP_hm2 p1 (fun j hj => (XCall.ext _ _ _ _ _ _ c1 (Nat.le_of_ble_eq_true rfl) j hj).trans (if_pos hj))
  generalize hu : h1.2.2 = u at e1
  subst e1
  refine XGp.go 6 rfl ?_
  refine XGp.callE [.ref 525, .int _] [_] _ rfl xm_X7_count rfl rfl rfl rfl (fun _ => ⟨525, _, rfl, rfl, Nat.le_of_ble_eq_true rfl, Nat.le_of_ble_eq_true rfl⟩) (Nat.le_of_ble_eq_true rfl) (f_m_count 9 _ (xg f0 xs 5) _) (fun h3 p3 c3 => ?_)
  refine XGp.go 1 rfl ?_
  refine XGp.ifp (rfl) ?_
  exact law_end c1 c3
