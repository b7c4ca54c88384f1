/-! one call on both sides (written by wip/p14/find/jpart.py) -/
theorem xhp_ext {ins : Instr} {a b : Nat} {st : List Value} {h : XH} {o : Nat × List Value × XH} (hs : xhp ins a b st h = some o) (h2 : 13 ≤ h.1) : ∀ j, j < 13 → o.2.2.2.2 j = h.2.2 j := by
  have key : ∀ (k : Nat) (e : XE), 13 ≤ k → ∀ j, j < 13 → (xup h k e).2.2 j = h.2.2 j := fun k e hk j hj => if_neg (by omega)
  have keyn : ∀ (n : Nat) (e : XE), ∀ j, j < 13 → (xnew h n e).2.2 j = h.2.2 j := fun n e j hj => if_neg (by omega)
  cases ins with
  | putfield idx =>
    simp only [xhp] at hs
    split at hs
    · split at hs
      · split at hs
        · rename_i hc
          have h4 := hc.2.1
          cases hs
          exact key _ _ h4
        · cases hs
      · cases hs
    · cases hs
  | iastore =>
    simp only [xhp] at hs
    split at hs
    · split at hs
      · split at hs
        · rename_i hc
          have h4 := hc.2.1
          cases hs
          exact key _ _ h4
        · cases hs
      · cases hs
    · cases hs
  | bastore =>
    simp only [xhp] at hs
    split at hs
    · split at hs
      · split at hs
        · rename_i hc
          have h4 := hc.2.1
          cases hs
          exact key _ _ h4
        · cases hs
      · cases hs
    · cases hs
  | aastore =>
    simp only [xhp] at hs
    split at hs
    · split at hs
      · split at hs
        · rename_i hc
          have h4 := hc.2.1
          cases hs
          exact key _ _ h4
        · cases hs
      · cases hs
    · cases hs
  | new idx => cases hs; exact keyn _ _
  | newarray ty =>
    simp only [xhp] at hs
    split at hs
    · split at hs
      · cases hs
        exact keyn _ _
      · cases hs
    · cases hs
  | anewarray idx =>
    simp only [xhp] at hs
    split at hs
    · split at hs
      · cases hs
        exact keyn _ _
      · cases hs
    · cases hs
  | invokestatic idx =>
    simp only [xhp] at hs
    split at hs
    · split at hs
      · split at hs
        · split at hs
          · rename_i hc
            have h4 := hc.2.1
            cases hs
            exact key _ _ h4
          · cases hs
        · cases hs
      · cases hs
    · split at hs
      · split at hs
        · split at hs
          · cases hs
            exact fun _ _ => rfl
          · cases hs
        · cases hs
      · cases hs
  | _ => simp [xhp] at hs
theorem XStep.ext {call : XCl} {M : XMeth} {c c1 : XC} (hc : ∀ i as h v h1, call i as h v h1 → 13 ≤ h.1 → ∀ j, j < 13 → h1.2.2 j = h.2.2 j) (h : XStep xM call M c c1) (h2 : 13 ≤ c.2.2.2.1) : ∀ j, j < 13 → c1.2.2.2.2.2 j = c.2.2.2.2.2 j := by
  obtain ⟨r, -, -, ⟨o, -, rfl⟩ | ⟨o, h1, rfl⟩ | ⟨M1, as, rest, v, h1, -, -, -, -, -, -, h3, rfl⟩⟩ := h
  · exact fun _ _ => rfl
  · exact xhp_ext h1 h2
  · exact hc _ _ _ _ _ h3 h2
theorem XRuns.ext {d : Nat} {M : XMeth} (hc : ∀ i as h v h1, XCall xM d i as h v h1 → 13 ≤ h.1 → ∀ j, j < 13 → h1.2.2 j = h.2.2 j) : ∀ (n : Nat) {c c1 : XC}, XRuns xM (XCall xM d) M n c c1 → 13 ≤ c.2.2.2.1 → ∀ j, j < 13 → c1.2.2.2.2.2 j = c.2.2.2.2.2 j
  | 0, c, c1, h, h2 => by cases h; exact fun _ _ => rfl
  | n + 1, c, c1, h, h2 => by
    obtain ⟨c2, h1, h3⟩ := h
    intro j hj
    exact (XRuns.ext hc n h3 (Nat.le_trans h2 (h1.mono (XCall.mono d)).1) j hj).trans (h1.ext hc h2 j hj)
theorem XCall.ext : ∀ (d i : Nat) (as : List Value) (h : XH) (v : Option Value) (h1 : XH), XCall xM d i as h v h1 → 13 ≤ h.1 → ∀ j, j < 13 → h1.2.2 j = h.2.2 j
  | 0, _, _, _, _, _, h => False.elim h
  | d + 1, i, as, h, v, h1, hc => by
    obtain ⟨M, n, c, -, -, hr, -, rfl⟩ := hc
    exact fun h2 => XRuns.ext (XCall.ext d) n hr h2
/-! who makes nothing leaves the heap's length -/
def xnz (r : XRow) : Bool := match r.2.1 with
  | .new _ => false
  | .newarray _ => false
  | .anewarray _ => false
  | .invokespecial _ => r.2.2.2.1 == 999
  | _ => true
theorem xMs_nz : xMs.all (fun M => xmK M == 2 || (xmT M).all xnz) = true := by decide +kernel
theorem xM_999 : xM 999 = none := List.getElem?_eq_none (by decide +kernel)
theorem xhp_siz {r : XRow} {st : List Value} {h : XH} {o : Nat × List Value × XH} (hs : xhp r.2.1 r.2.2.2.1 r.2.2.2.2.1 st h = some o) (hn : xnz r = true) : o.2.2.1 = h.1 ∧ o.2.2.2.1 = h.2.1 := by
  obtain ⟨pc, ins, len, a, b, w⟩ := r
  dsimp only at hs
  unfold xhp at hs
  repeat' split at hs
  all_goals first | (cases hs; done) | (cases hs; first | exact ⟨rfl, rfl⟩ | (simp [xnz] at hn; done))
theorem XStep.siz {call : XCl} {M : XMeth} {c c1 : XC} (hc : ∀ i as h v h1 M1, xM i = some M1 → xmK M1 ≠ 2 → call i as h v h1 → h1.1 = h.1 ∧ h1.2.1 = h.2.1) (hM : (xmT M).all xnz = true) (h : XStep xM call M c c1) : c1.2.2.2.1 = c.2.2.2.1 ∧ c1.2.2.2.2.1 = c.2.2.2.2.1 := by
  obtain ⟨r, hr, -, ⟨o, -, rfl⟩ | ⟨o, h1, rfl⟩ | ⟨M1, as, rest, v, h1, hm, hi, -, -, -, -, h3, rfl⟩⟩ := h
  · exact ⟨rfl, rfl⟩
  · exact xhp_siz h1 (List.all_eq_true.mp hM r hr)
  · refine hc _ _ _ _ _ M1 hm (fun e => ?_) h3
    have hz := List.all_eq_true.mp hM r hr
    obtain ⟨pc, ins, len, a, b, w⟩ := r
    dsimp only at hm hi
    rw [e] at hi
    unfold xinv at hi
    split at hi
    · cases hi
    · cases hi
    · simp only [xnz, beq_iff_eq] at hz
      rw [hz, xM_999] at hm
      cases hm
    · cases hi
theorem XRuns.siz {d : Nat} {M : XMeth} (hc : ∀ i as h v h1 M1, xM i = some M1 → xmK M1 ≠ 2 → XCall xM d i as h v h1 → h1.1 = h.1 ∧ h1.2.1 = h.2.1) (hM : (xmT M).all xnz = true) : ∀ (n : Nat) {c c1 : XC}, XRuns xM (XCall xM d) M n c c1 → c1.2.2.2.1 = c.2.2.2.1 ∧ c1.2.2.2.2.1 = c.2.2.2.2.1
  | 0, c, c1, h => by cases h; exact ⟨rfl, rfl⟩
  | n + 1, c, c1, h => by
    obtain ⟨c2, h1, h3⟩ := h
    have a := h1.siz hc hM
    have b := XRuns.siz hc hM n h3
    exact ⟨b.1.trans a.1, b.2.trans a.2⟩
theorem XCall.siz : ∀ (d i : Nat) (as : List Value) (h : XH) (v : Option Value) (h1 : XH) (M : XMeth), xM i = some M → xmK M ≠ 2 → XCall xM d i as h v h1 → h1.1 = h.1 ∧ h1.2.1 = h.2.1
  | 0, _, _, _, _, _, _, _, _, h => False.elim h
  | d + 1, i, as, h, v, h1, M, hm, hk, hc => by
    obtain ⟨M1, n, c, hm1, -, hr, -, rfl⟩ := hc
    rw [hm] at hm1
    cases hm1
    have hz := List.all_eq_true.mp xMs_nz M (List.mem_of_getElem? hm)
    simp only [Bool.or_eq_true, beq_iff_eq] at hz
    exact XRuns.siz (fun i as h v h1 M1 => XCall.siz d i as h v h1 M1) (hz.resolve_left hk) n hr

def wsafe (ws : AWr) : Bool := !ahit ws 14 11 && (!ahit ws 66 3 && (!ahit ws 27 11 && (!(ws.any fun w => Nat.beq w.1 67) && (!ahit ws 13 2 && !ahit ws 65 3))))
theorem rdF {ws : AWr} {h h1 : XH} {k r b : Nat} (hr : w_rg k = r) (hk : k < 549) (hF : AFr w_W ws h h1) (hh : ahit ws r (b : Int) = false) : rd h1 k b = rd h k b := hF k b hk (fun w hw hc => ahit_no (ws := ws) (r := r) (b := (b : Int)) (by rw [hh]; decide) w hw ⟨hc.1.trans ((w_W1 k).trans hr), hc.2⟩)
theorem PInv.out {P : Nat × List APr} {ws : AWr} {h h1 : XH} (hF : AFr w_W ws h h1) (hn : ∀ w ∈ ws, ¬ w.1 = P.1) (hp : PInv w_W P h []) : PInv w_W P h1 [] := fun n p e1 e2 k hk hr x hx hv => by
  have e : ∀ b, rd h1 k b = rd h k b := fun b => hF k b hk fun w hw hc => hn w hw (hc.1.trans hr)
  rw [e] at hx
  obtain ⟨y, hy, y1⟩ := hp n p e1 e2 k hk hr x hx hv
  exact ⟨y, by rw [e]; exact hy, y1⟩
theorem w67 {ws : AWr} (h : (!(ws.any fun w => Nat.beq w.1 67)) = true) : ∀ w ∈ ws, ¬ w.1 = 67 := fun w hw e => by
  have : (ws.any fun w => Nat.beq w.1 67) = true := List.any_eq_true.mpr ⟨w, hw, by rw [e]; rfl⟩
  rw [this] at h
  cases h
theorem inv_fr {L : Nat} {xs : Nat → Int32} {ws : AWr} {h h1 : XH} (hI : INV L xs h) (h2 : AInv w_W h1) (h3 : PInv w_W w_P h1 []) (hF : AFr w_W ws h h1) (hs : wsafe ws = true) (he : h1.2.2 1 = h.2.2 1) : INV L xs h1 := by
  unfold wsafe at hs
  simp only [Bool.and_eq_true, Bool.not_eq_true'] at hs
  obtain ⟨s1, s2, s3, s4, s5, s6⟩ := hs
  obtain ⟨-, -, p2, ⟨r, q, x, hr, hq, r1, r2, r3, r4, r5, r6⟩, hsc⟩ := hI
  have s4' := w67 (ws := ws) (by rw [s4]; rfl)
  refine ⟨h2, h3, PInv.out (P := (67, w_P.2)) hF s4' p2, ⟨r, q, x, hr, hq, ?_, ?_, ?_, ?_, ?_, ?_⟩, he.trans hsc⟩
  · exact (rdF (b := 11) w_rg_14 (by decide) hF s1).trans r1
  · exact (rdF (b := 3) w_rg_537 (by decide) hF s2).trans r2
  · exact (rdF (b := 11) w_rg_42 (by decide) hF s3).trans r3
  · refine (hF 538 3 (by decide) fun w hw hc => s4' w hw (hc.1.trans ((w_W1 538).trans w_rg_538))).trans r4
  · exact (rdF (b := 2) w_rg_13 (by decide) hF s5).trans r5
  · exact (rdF (b := 3) w_rg_536 (by decide) hF s6).trans r6
def aints (l : List AAlt) : Bool := l.all fun o => match o.1 with
  | some a => a.1 == 0
  | none => false
theorem aints_ok {h : XH} {l : List AAlt} (hl : aints l = true) {o : AAlt} (ho : o ∈ l) {v : Option Value} (ha : aansH w_W h o.1 v) : ∃ x : Int32, v = some (.int x) := by
  have k := List.all_eq_true.mp hl o ho
  have ha := ha.1
  unfold aans at ha
  split at k
  · rename_i a he
    rw [he] at ha
    obtain ⟨w, rfl, hw⟩ := ha
    obtain ⟨x, rfl, -⟩ := ga_int (by simpa using k) hw
    exact ⟨x, rfl⟩
  · cases k
/-- one side's call that leaves what the sides have in common -/
theorem J_one {c : ACt} (hc : AHp w_W w_P c) (hs : wsafe c.1.2.2.2.1 = true) (ho : aints c.1.2.2.1 = true) (hm : c.2.1 = []) (hd : c.1.2.2.2.2 ≤ 11) {as : List Value} (ha : gal w_W c.1.2.1 as) {L : Nat} {xs : Nat → Int32} {h : XH} (hI : INV L xs h) : ∃ (v : Int32) (h1 : XH), XCall xM 11 c.1.1 as h (some (.int v)) h1 ∧ INV L xs h1 := by
  obtain ⟨v, h1, k1, k2, k3, k4, o, ho2, o1, -, -⟩ := hc.2 as h hI.1 hI.2.1 ha (by rw [hm]; exact fun q hq => by cases hq)
  obtain ⟨x, rfl⟩ := aints_ok ho ho2 o1
  have e := XCall.ext _ _ _ _ _ _ k1 (by rw [hI.1.1]; decide) 1 (by decide)
  exact ⟨x, h1, XCall.up hd k1, inv_fr hI k2 k3 k4 hs e⟩
theorem gal0 : gal w_W [] [] := trivial
theorem galT (x : Int32) {B : List AV} {as : List Value} (h : gal w_W B as) : gal w_W (avT :: B) (.int x :: as) := ⟨ga_of rfl (gi_T x), h⟩
theorem galL (x : Int64) {B : List AV} {as : List Value} (h : gal w_W B as) : gal w_W (avL :: B) (.long x :: as) := ⟨⟨x, rfl⟩, h⟩
theorem gal13 {B : List AV} {as : List Value} (h : gal w_W B as) : gal w_W (avR 13 :: B) (.ref 13 :: as) := ⟨w_ga13, h⟩
theorem gal536 {B : List AV} {as : List Value} (h : gal w_W B as) : gal w_W (avR 65 :: B) (.ref 536 :: as) := ⟨w_ga536, h⟩
theorem Jc_person (a0 : Int32) (a1 : Int32) {L : Nat} {xs : Nat → Int32} {h : XH} (hI : INV L xs h) : ∃ (v : Int32) (h1 : XH), XCall xM 11 62 [.ref 13, .int a0, .int a1] h (some (.int v)) h1 ∧ INV L xs h1 := J_one h_5 (by decide +kernel) (by decide +kernel) rfl (by decide) (gal13 (galT a0 (galT a1 gal0))) hI
theorem Jm_person (a0 : Int32) (a1 : Int32) {L : Nat} {xs : Nat → Int32} {h : XH} (hI : INV L xs h) : ∃ (v : Int32) (h1 : XH), XCall xM 11 113 [.ref 536, .int a0, .int a1] h (some (.int v)) h1 ∧ INV L xs h1 := J_one h_231 (by decide +kernel) (by decide +kernel) rfl (by decide) (gal536 (galT a0 (galT a1 gal0))) hI
theorem Jc_maybe (a0 : Int32) (a1 : Int32) (a2 : Int32) {L : Nat} {xs : Nat → Int32} {h : XH} (hI : INV L xs h) : ∃ (v : Int32) (h1 : XH), XCall xM 11 63 [.ref 13, .int a0, .int a1, .int a2] h (some (.int v)) h1 ∧ INV L xs h1 := J_one h_11 (by decide +kernel) (by decide +kernel) rfl (by decide) (gal13 (galT a0 (galT a1 (galT a2 gal0)))) hI
theorem Jm_maybe (a0 : Int32) (a1 : Int32) (a2 : Int32) {L : Nat} {xs : Nat → Int32} {h : XH} (hI : INV L xs h) : ∃ (v : Int32) (h1 : XH), XCall xM 11 114 [.ref 536, .int a0, .int a1, .int a2] h (some (.int v)) h1 ∧ INV L xs h1 := J_one h_236 (by decide +kernel) (by decide +kernel) rfl (by decide) (gal536 (galT a0 (galT a1 (galT a2 gal0)))) hI
theorem Jc_life (a0 : Int32) (a1 : Int32) (a2 : Int32) (a3 : Int32) {L : Nat} {xs : Nat → Int32} {h : XH} (hI : INV L xs h) : ∃ (v : Int32) (h1 : XH), XCall xM 11 64 [.ref 13, .int a0, .int a1, .int a2, .int a3] h (some (.int v)) h1 ∧ INV L xs h1 := J_one h_36 (by decide +kernel) (by decide +kernel) rfl (by decide) (gal13 (galT a0 (galT a1 (galT a2 (galT a3 gal0))))) hI
theorem Jm_life (a0 : Int32) (a1 : Int32) (a2 : Int32) (a3 : Int32) {L : Nat} {xs : Nat → Int32} {h : XH} (hI : INV L xs h) : ∃ (v : Int32) (h1 : XH), XCall xM 11 119 [.ref 536, .int a0, .int a1, .int a2, .int a3] h (some (.int v)) h1 ∧ INV L xs h1 := J_one h_251 (by decide +kernel) (by decide +kernel) rfl (by decide) (gal536 (galT a0 (galT a1 (galT a2 (galT a3 gal0))))) hI
theorem Jc_feed (a0 : Int64) (a1 : Int32) {L : Nat} {xs : Nat → Int32} {h : XH} (hI : INV L xs h) : ∃ (v : Int32) (h1 : XH), XCall xM 11 65 [.ref 13, .long a0, .int a1] h (some (.int v)) h1 ∧ INV L xs h1 := J_one h_38 (by decide +kernel) (by decide +kernel) rfl (by decide) (gal13 (galL a0 (galT a1 gal0))) hI
theorem Jm_feed (a0 : Int64) (a1 : Int32) {L : Nat} {xs : Nat → Int32} {h : XH} (hI : INV L xs h) : ∃ (v : Int32) (h1 : XH), XCall xM 11 120 [.ref 536, .long a0, .int a1] h (some (.int v)) h1 ∧ INV L xs h1 := J_one h_253 (by decide +kernel) (by decide +kernel) rfl (by decide) (gal536 (galL a0 (galT a1 gal0))) hI
theorem Jc_grant  {L : Nat} {xs : Nat → Int32} {h : XH} (hI : INV L xs h) : ∃ (v : Int32) (h1 : XH), XCall xM 11 66 [.ref 13] h (some (.int v)) h1 ∧ INV L xs h1 := J_one h_92 (by decide +kernel) (by decide +kernel) rfl (by decide) (gal13 gal0) hI
theorem Jm_grant  {L : Nat} {xs : Nat → Int32} {h : XH} (hI : INV L xs h) : ∃ (v : Int32) (h1 : XH), XCall xM 11 130 [.ref 536] h (some (.int v)) h1 ∧ INV L xs h1 := J_one h_713 (by decide +kernel) (by decide +kernel) rfl (by decide) (gal536 gal0) hI
theorem Jc_told (a0 : Int32) (a1 : Int32) {L : Nat} {xs : Nat → Int32} {h : XH} (hI : INV L xs h) : ∃ (v : Int32) (h1 : XH), XCall xM 11 67 [.ref 13, .int a0, .int a1] h (some (.int v)) h1 ∧ INV L xs h1 := J_one h_99 (by decide +kernel) (by decide +kernel) rfl (by decide) (gal13 (galT a0 (galT a1 gal0))) hI
theorem Jm_told (a0 : Int32) (a1 : Int32) {L : Nat} {xs : Nat → Int32} {h : XH} (hI : INV L xs h) : ∃ (v : Int32) (h1 : XH), XCall xM 11 132 [.ref 536, .int a0, .int a1] h (some (.int v)) h1 ∧ INV L xs h1 := J_one h_724 (by decide +kernel) (by decide +kernel) rfl (by decide) (gal536 (galT a0 (galT a1 gal0))) hI
theorem Jc_has (a0 : Int32) (a1 : Int32) (a2 : Int32) (a3 : Int32) {L : Nat} {xs : Nat → Int32} {h : XH} (hI : INV L xs h) : ∃ (v : Int32) (h1 : XH), XCall xM 11 68 [.ref 13, .int a0, .int a1, .int a2, .int a3] h (some (.int v)) h1 ∧ INV L xs h1 := J_one h_121 (by decide +kernel) (by decide +kernel) rfl (by decide) (gal13 (galT a0 (galT a1 (galT a2 (galT a3 gal0))))) hI
theorem Jm_has (a0 : Int32) (a1 : Int32) (a2 : Int32) (a3 : Int32) {L : Nat} {xs : Nat → Int32} {h : XH} (hI : INV L xs h) : ∃ (v : Int32) (h1 : XH), XCall xM 11 147 [.ref 536, .int a0, .int a1, .int a2, .int a3] h (some (.int v)) h1 ∧ INV L xs h1 := J_one h_930 (by decide +kernel) (by decide +kernel) rfl (by decide) (gal536 (galT a0 (galT a1 (galT a2 (galT a3 gal0))))) hI
theorem Jc_began (a0 : Int32) (a1 : Int32) (a2 : Int32) {L : Nat} {xs : Nat → Int32} {h : XH} (hI : INV L xs h) : ∃ (v : Int32) (h1 : XH), XCall xM 11 69 [.ref 13, .int a0, .int a1, .int a2] h (some (.int v)) h1 ∧ INV L xs h1 := J_one h_123 (by decide +kernel) (by decide +kernel) rfl (by decide) (gal13 (galT a0 (galT a1 (galT a2 gal0)))) hI
theorem Jm_began (a0 : Int32) (a1 : Int32) (a2 : Int32) {L : Nat} {xs : Nat → Int32} {h : XH} (hI : INV L xs h) : ∃ (v : Int32) (h1 : XH), XCall xM 11 148 [.ref 536, .int a0, .int a1, .int a2] h (some (.int v)) h1 ∧ INV L xs h1 := J_one h_932 (by decide +kernel) (by decide +kernel) rfl (by decide) (gal536 (galT a0 (galT a1 (galT a2 gal0)))) hI
theorem Jc_sure (a0 : Int32) (a1 : Int32) (a2 : Int32) {L : Nat} {xs : Nat → Int32} {h : XH} (hI : INV L xs h) : ∃ (v : Int32) (h1 : XH), XCall xM 11 70 [.ref 13, .int a0, .int a1, .int a2] h (some (.int v)) h1 ∧ INV L xs h1 := J_one h_127 (by decide +kernel) (by decide +kernel) rfl (by decide) (gal13 (galT a0 (galT a1 (galT a2 gal0)))) hI
theorem Jm_sure (a0 : Int32) (a1 : Int32) (a2 : Int32) {L : Nat} {xs : Nat → Int32} {h : XH} (hI : INV L xs h) : ∃ (v : Int32) (h1 : XH), XCall xM 11 150 [.ref 536, .int a0, .int a1, .int a2] h (some (.int v)) h1 ∧ INV L xs h1 := J_one h_935 (by decide +kernel) (by decide +kernel) rfl (by decide) (gal536 (galT a0 (galT a1 (galT a2 gal0)))) hI
theorem Jc_holders (a0 : Int32) (a1 : Int32) {L : Nat} {xs : Nat → Int32} {h : XH} (hI : INV L xs h) : ∃ (v : Int32) (h1 : XH), XCall xM 11 71 [.ref 13, .int a0, .int a1] h (some (.int v)) h1 ∧ INV L xs h1 := J_one h_128 (by decide +kernel) (by decide +kernel) rfl (by decide) (gal13 (galT a0 (galT a1 gal0))) hI
theorem Jm_holders (a0 : Int32) (a1 : Int32) {L : Nat} {xs : Nat → Int32} {h : XH} (hI : INV L xs h) : ∃ (v : Int32) (h1 : XH), XCall xM 11 151 [.ref 536, .int a0, .int a1] h (some (.int v)) h1 ∧ INV L xs h1 := J_one h_936 (by decide +kernel) (by decide +kernel) rfl (by decide) (gal536 (galT a0 (galT a1 gal0))) hI
theorem Jc_share (a0 : Int32) (a1 : Int32) (a2 : Int32) (a3 : Int32) {L : Nat} {xs : Nat → Int32} {h : XH} (hI : INV L xs h) : ∃ (v : Int32) (h1 : XH), XCall xM 11 72 [.ref 13, .int a0, .int a1, .int a2, .int a3] h (some (.int v)) h1 ∧ INV L xs h1 := J_one h_129 (by decide +kernel) (by decide +kernel) rfl (by decide) (gal13 (galT a0 (galT a1 (galT a2 (galT a3 gal0))))) hI
theorem Jm_share (a0 : Int32) (a1 : Int32) (a2 : Int32) (a3 : Int32) {L : Nat} {xs : Nat → Int32} {h : XH} (hI : INV L xs h) : ∃ (v : Int32) (h1 : XH), XCall xM 11 152 [.ref 536, .int a0, .int a1, .int a2, .int a3] h (some (.int v)) h1 ∧ INV L xs h1 := J_one h_937 (by decide +kernel) (by decide +kernel) rfl (by decide) (gal536 (galT a0 (galT a1 (galT a2 (galT a3 gal0))))) hI
theorem Jc_judged (a0 : Int32) (a1 : Int32) {L : Nat} {xs : Nat → Int32} {h : XH} (hI : INV L xs h) : ∃ (v : Int32) (h1 : XH), XCall xM 11 73 [.ref 13, .int a0, .int a1] h (some (.int v)) h1 ∧ INV L xs h1 := J_one h_131 (by decide +kernel) (by decide +kernel) rfl (by decide) (gal13 (galT a0 (galT a1 gal0))) hI
theorem Jm_judged (a0 : Int32) (a1 : Int32) {L : Nat} {xs : Nat → Int32} {h : XH} (hI : INV L xs h) : ∃ (v : Int32) (h1 : XH), XCall xM 11 153 [.ref 536, .int a0, .int a1] h (some (.int v)) h1 ∧ INV L xs h1 := J_one h_938 (by decide +kernel) (by decide +kernel) rfl (by decide) (gal536 (galT a0 (galT a1 gal0))) hI
theorem Jc_late (a0 : Int32) (a1 : Int32) (a2 : Int32) (a3 : Int32) {L : Nat} {xs : Nat → Int32} {h : XH} (hI : INV L xs h) : ∃ (v : Int32) (h1 : XH), XCall xM 11 75 [.ref 13, .int a0, .int a1, .int a2, .int a3] h (some (.int v)) h1 ∧ INV L xs h1 := J_one h_135 (by decide +kernel) (by decide +kernel) rfl (by decide) (gal13 (galT a0 (galT a1 (galT a2 (galT a3 gal0))))) hI
theorem Jm_late (a0 : Int32) (a1 : Int32) (a2 : Int32) (a3 : Int32) {L : Nat} {xs : Nat → Int32} {h : XH} (hI : INV L xs h) : ∃ (v : Int32) (h1 : XH), XCall xM 11 158 [.ref 536, .int a0, .int a1, .int a2, .int a3] h (some (.int v)) h1 ∧ INV L xs h1 := J_one h_944 (by decide +kernel) (by decide +kernel) rfl (by decide) (gal536 (galT a0 (galT a1 (galT a2 (galT a3 gal0))))) hI
theorem Jc_measure (a0 : Int32) {L : Nat} {xs : Nat → Int32} {h : XH} (hI : INV L xs h) : ∃ (v : Int32) (h1 : XH), XCall xM 11 76 [.ref 13, .int a0] h (some (.int v)) h1 ∧ INV L xs h1 := J_one h_136 (by decide +kernel) (by decide +kernel) rfl (by decide) (gal13 (galT a0 gal0)) hI
theorem Jm_measure (a0 : Int32) {L : Nat} {xs : Nat → Int32} {h : XH} (hI : INV L xs h) : ∃ (v : Int32) (h1 : XH), XCall xM 11 159 [.ref 536, .int a0] h (some (.int v)) h1 ∧ INV L xs h1 := J_one h_945 (by decide +kernel) (by decide +kernel) rfl (by decide) (gal536 (galT a0 gal0)) hI
theorem Jc_see (a0 : Int32) (a1 : Int32) (a2 : Int32) (a3 : Int32) {L : Nat} {xs : Nat → Int32} {h : XH} (hI : INV L xs h) : ∃ (v : Int32) (h1 : XH), XCall xM 11 77 [.ref 13, .int a0, .int a1, .int a2, .int a3] h (some (.int v)) h1 ∧ INV L xs h1 := J_one h_139 (by decide +kernel) (by decide +kernel) rfl (by decide) (gal13 (galT a0 (galT a1 (galT a2 (galT a3 gal0))))) hI
theorem Jm_see (a0 : Int32) (a1 : Int32) (a2 : Int32) (a3 : Int32) {L : Nat} {xs : Nat → Int32} {h : XH} (hI : INV L xs h) : ∃ (v : Int32) (h1 : XH), XCall xM 11 160 [.ref 536, .int a0, .int a1, .int a2, .int a3] h (some (.int v)) h1 ∧ INV L xs h1 := J_one h_946 (by decide +kernel) (by decide +kernel) rfl (by decide) (gal536 (galT a0 (galT a1 (galT a2 (galT a3 gal0))))) hI
theorem Jc_strike (a0 : Int32) (a1 : Int32) {L : Nat} {xs : Nat → Int32} {h : XH} (hI : INV L xs h) : ∃ (v : Int32) (h1 : XH), XCall xM 11 78 [.ref 13, .int a0, .int a1] h (some (.int v)) h1 ∧ INV L xs h1 := J_one h_153 (by decide +kernel) (by decide +kernel) rfl (by decide) (gal13 (galT a0 (galT a1 gal0))) hI
theorem Jm_strike (a0 : Int32) (a1 : Int32) {L : Nat} {xs : Nat → Int32} {h : XH} (hI : INV L xs h) : ∃ (v : Int32) (h1 : XH), XCall xM 11 162 [.ref 536, .int a0, .int a1] h (some (.int v)) h1 ∧ INV L xs h1 := J_one h_5000 (by decide +kernel) (by decide +kernel) rfl (by decide) (gal536 (galT a0 (galT a1 gal0))) hI
theorem Jc_mend (a0 : Int32) (a1 : Int32) (a2 : Int32) {L : Nat} {xs : Nat → Int32} {h : XH} (hI : INV L xs h) : ∃ (v : Int32) (h1 : XH), XCall xM 11 79 [.ref 13, .int a0, .int a1, .int a2] h (some (.int v)) h1 ∧ INV L xs h1 := J_one h_170 (by decide +kernel) (by decide +kernel) rfl (by decide) (gal13 (galT a0 (galT a1 (galT a2 gal0)))) hI
theorem Jm_mend (a0 : Int32) (a1 : Int32) (a2 : Int32) {L : Nat} {xs : Nat → Int32} {h : XH} (hI : INV L xs h) : ∃ (v : Int32) (h1 : XH), XCall xM 11 163 [.ref 536, .int a0, .int a1, .int a2] h (some (.int v)) h1 ∧ INV L xs h1 := J_one h_963 (by decide +kernel) (by decide +kernel) rfl (by decide) (gal536 (galT a0 (galT a1 (galT a2 gal0)))) hI
theorem Jc_both (a0 : Int32) (a1 : Int32) (a2 : Int32) (a3 : Int32) {L : Nat} {xs : Nat → Int32} {h : XH} (hI : INV L xs h) : ∃ (v : Int32) (h1 : XH), XCall xM 11 80 [.ref 13, .int a0, .int a1, .int a2, .int a3] h (some (.int v)) h1 ∧ INV L xs h1 := J_one h_185 (by decide +kernel) (by decide +kernel) rfl (by decide) (gal13 (galT a0 (galT a1 (galT a2 (galT a3 gal0))))) hI
theorem Jm_both (a0 : Int32) (a1 : Int32) (a2 : Int32) (a3 : Int32) {L : Nat} {xs : Nat → Int32} {h : XH} (hI : INV L xs h) : ∃ (v : Int32) (h1 : XH), XCall xM 11 165 [.ref 536, .int a0, .int a1, .int a2, .int a3] h (some (.int v)) h1 ∧ INV L xs h1 := J_one h_965 (by decide +kernel) (by decide +kernel) rfl (by decide) (gal536 (galT a0 (galT a1 (galT a2 (galT a3 gal0))))) hI
theorem Jc_clash (a0 : Int32) (a1 : Int32) (a2 : Int32) {L : Nat} {xs : Nat → Int32} {h : XH} (hI : INV L xs h) : ∃ (v : Int32) (h1 : XH), XCall xM 11 81 [.ref 13, .int a0, .int a1, .int a2] h (some (.int v)) h1 ∧ INV L xs h1 := J_one h_186 (by decide +kernel) (by decide +kernel) rfl (by decide) (gal13 (galT a0 (galT a1 (galT a2 gal0)))) hI
theorem Jm_clash (a0 : Int32) (a1 : Int32) (a2 : Int32) {L : Nat} {xs : Nat → Int32} {h : XH} (hI : INV L xs h) : ∃ (v : Int32) (h1 : XH), XCall xM 11 166 [.ref 536, .int a0, .int a1, .int a2] h (some (.int v)) h1 ∧ INV L xs h1 := J_one h_966 (by decide +kernel) (by decide +kernel) rfl (by decide) (gal536 (galT a0 (galT a1 (galT a2 gal0)))) hI
theorem Jc_same (a0 : Int32) (a1 : Int32) {L : Nat} {xs : Nat → Int32} {h : XH} (hI : INV L xs h) : ∃ (v : Int32) (h1 : XH), XCall xM 11 82 [.ref 13, .int a0, .int a1] h (some (.int v)) h1 ∧ INV L xs h1 := J_one h_187 (by decide +kernel) (by decide +kernel) rfl (by decide) (gal13 (galT a0 (galT a1 gal0))) hI
theorem Jm_same (a0 : Int32) (a1 : Int32) {L : Nat} {xs : Nat → Int32} {h : XH} (hI : INV L xs h) : ∃ (v : Int32) (h1 : XH), XCall xM 11 167 [.ref 536, .int a0, .int a1] h (some (.int v)) h1 ∧ INV L xs h1 := J_one h_967 (by decide +kernel) (by decide +kernel) rfl (by decide) (gal536 (galT a0 (galT a1 gal0))) hI
theorem Jc_act (a0 : Int32) (a1 : Int32) (a2 : Int32) (a3 : Int32) {L : Nat} {xs : Nat → Int32} {h : XH} (hI : INV L xs h) : ∃ (v : Int32) (h1 : XH), XCall xM 11 83 [.ref 13, .int a0, .int a1, .int a2, .int a3] h (some (.int v)) h1 ∧ INV L xs h1 := J_one h_198 (by decide +kernel) (by decide +kernel) rfl (by decide) (gal13 (galT a0 (galT a1 (galT a2 (galT a3 gal0))))) hI
theorem Jm_act (a0 : Int32) (a1 : Int32) (a2 : Int32) (a3 : Int32) {L : Nat} {xs : Nat → Int32} {h : XH} (hI : INV L xs h) : ∃ (v : Int32) (h1 : XH), XCall xM 11 177 [.ref 536, .int a0, .int a1, .int a2, .int a3] h (some (.int v)) h1 ∧ INV L xs h1 := J_one h_1002 (by decide +kernel) (by decide +kernel) rfl (by decide) (gal536 (galT a0 (galT a1 (galT a2 (galT a3 gal0))))) hI
theorem Jc_trace (a0 : Int32) {L : Nat} {xs : Nat → Int32} {h : XH} (hI : INV L xs h) : ∃ (v : Int32) (h1 : XH), XCall xM 11 84 [.ref 13, .int a0] h (some (.int v)) h1 ∧ INV L xs h1 := J_one h_200 (by decide +kernel) (by decide +kernel) rfl (by decide) (gal13 (galT a0 gal0)) hI
theorem Jm_trace (a0 : Int32) {L : Nat} {xs : Nat → Int32} {h : XH} (hI : INV L xs h) : ∃ (v : Int32) (h1 : XH), XCall xM 11 178 [.ref 536, .int a0] h (some (.int v)) h1 ∧ INV L xs h1 := J_one h_1005 (by decide +kernel) (by decide +kernel) rfl (by decide) (gal536 (galT a0 gal0)) hI
theorem Jc_as (a0 : Int32) (a1 : Int32) (a2 : Int32) {L : Nat} {xs : Nat → Int32} {h : XH} (hI : INV L xs h) : ∃ (v : Int32) (h1 : XH), XCall xM 11 85 [.ref 13, .int a0, .int a1, .int a2] h (some (.int v)) h1 ∧ INV L xs h1 := J_one h_201 (by decide +kernel) (by decide +kernel) rfl (by decide) (gal13 (galT a0 (galT a1 (galT a2 gal0)))) hI
theorem Jm_as (a0 : Int32) (a1 : Int32) (a2 : Int32) {L : Nat} {xs : Nat → Int32} {h : XH} (hI : INV L xs h) : ∃ (v : Int32) (h1 : XH), XCall xM 11 179 [.ref 536, .int a0, .int a1, .int a2] h (some (.int v)) h1 ∧ INV L xs h1 := J_one h_1007 (by decide +kernel) (by decide +kernel) rfl (by decide) (gal536 (galT a0 (galT a1 (galT a2 gal0)))) hI
theorem Jc_count (a0 : Int32) {L : Nat} {xs : Nat → Int32} {h : XH} (hI : INV L xs h) : ∃ (v : Int32) (h1 : XH), XCall xM 11 88 [.ref 13, .int a0] h (some (.int v)) h1 ∧ INV L xs h1 := J_one h_228 (by decide +kernel) (by decide +kernel) rfl (by decide) (gal13 (galT a0 gal0)) hI
theorem Jm_count (a0 : Int32) {L : Nat} {xs : Nat → Int32} {h : XH} (hI : INV L xs h) : ∃ (v : Int32) (h1 : XH), XCall xM 11 182 [.ref 536, .int a0] h (some (.int v)) h1 ∧ INV L xs h1 := J_one h_1008 (by decide +kernel) (by decide +kernel) rfl (by decide) (gal536 (galT a0 gal0)) hI
def rwcs : List (Nat × ACt) := [(0, c_1009), (0, c_1015), (0, c_1021), (0, c_1027), (0, c_1033), (0, c_1039), (0, c_1045), (0, c_1051), (0, c_1057), (0, c_1063), (0, c_1069), (0, c_1075), (0, c_1081), (0, c_1087), (0, c_1093), (0, c_1099), (0, c_1105), (0, c_1111), (0, c_1117), (0, c_1123), (0, c_1129), (0, c_1135), (0, c_1141), (0, c_1147), (0, c_1153), (0, c_1159), (0, c_1165), (0, c_1171), (0, c_1177), (0, c_1183), (0, c_1189), (0, c_1195), (0, c_1201), (0, c_1207), (0, c_1213), (0, c_1219), (0, c_1225), (0, c_1231), (0, c_1237), (0, c_1243), (0, c_1249), (0, c_1255)]
theorem rwcs_h : ∀ c ∈ rwcs, AHp w_W w_P c.2 := (ac_c (n := 0) h_1009 (ac_c (n := 0) h_1015 (ac_c (n := 0) h_1021 (ac_c (n := 0) h_1027 (ac_c (n := 0) h_1033 (ac_c (n := 0) h_1039 (ac_c (n := 0) h_1045 (ac_c (n := 0) h_1051 (ac_c (n := 0) h_1057 (ac_c (n := 0) h_1063 (ac_c (n := 0) h_1069 (ac_c (n := 0) h_1075 (ac_c (n := 0) h_1081 (ac_c (n := 0) h_1087 (ac_c (n := 0) h_1093 (ac_c (n := 0) h_1099 (ac_c (n := 0) h_1105 (ac_c (n := 0) h_1111 (ac_c (n := 0) h_1117 (ac_c (n := 0) h_1123 (ac_c (n := 0) h_1129 (ac_c (n := 0) h_1135 (ac_c (n := 0) h_1141 (ac_c (n := 0) h_1147 (ac_c (n := 0) h_1153 (ac_c (n := 0) h_1159 (ac_c (n := 0) h_1165 (ac_c (n := 0) h_1171 (ac_c (n := 0) h_1177 (ac_c (n := 0) h_1183 (ac_c (n := 0) h_1189 (ac_c (n := 0) h_1195 (ac_c (n := 0) h_1201 (ac_c (n := 0) h_1207 (ac_c (n := 0) h_1213 (ac_c (n := 0) h_1219 (ac_c (n := 0) h_1225 (ac_c (n := 0) h_1231 (ac_c (n := 0) h_1237 (ac_c (n := 0) h_1243 (ac_c (n := 0) h_1249 (ac_c (n := 0) h_1255 ac_n))))))))))))))))))))))))))))))))))))))))))
def rwms : List (Nat × ACt) := [(0, c_1010), (0, c_1016), (0, c_1022), (0, c_1028), (0, c_1034), (0, c_1040), (0, c_1046), (0, c_1052), (0, c_1058), (0, c_1064), (0, c_1070), (0, c_1076), (0, c_1082), (0, c_1088), (0, c_1094), (0, c_1100), (0, c_1106), (0, c_1112), (0, c_1118), (0, c_1124), (0, c_1130), (0, c_1136), (0, c_1142), (0, c_1148), (0, c_1154), (0, c_1160), (0, c_1166), (0, c_1172), (0, c_1178), (0, c_1184), (0, c_1190), (0, c_1196), (0, c_1202), (0, c_1208), (0, c_1214), (0, c_1220), (0, c_1226), (0, c_1232), (0, c_1238), (0, c_1244), (0, c_1250), (0, c_1256)]
theorem rwms_h : ∀ c ∈ rwms, AHp w_W w_P c.2 := (ac_c (n := 0) h_1010 (ac_c (n := 0) h_1016 (ac_c (n := 0) h_1022 (ac_c (n := 0) h_1028 (ac_c (n := 0) h_1034 (ac_c (n := 0) h_1040 (ac_c (n := 0) h_1046 (ac_c (n := 0) h_1052 (ac_c (n := 0) h_1058 (ac_c (n := 0) h_1064 (ac_c (n := 0) h_1070 (ac_c (n := 0) h_1076 (ac_c (n := 0) h_1082 (ac_c (n := 0) h_1088 (ac_c (n := 0) h_1094 (ac_c (n := 0) h_1100 (ac_c (n := 0) h_1106 (ac_c (n := 0) h_1112 (ac_c (n := 0) h_1118 (ac_c (n := 0) h_1124 (ac_c (n := 0) h_1130 (ac_c (n := 0) h_1136 (ac_c (n := 0) h_1142 (ac_c (n := 0) h_1148 (ac_c (n := 0) h_1154 (ac_c (n := 0) h_1160 (ac_c (n := 0) h_1166 (ac_c (n := 0) h_1172 (ac_c (n := 0) h_1178 (ac_c (n := 0) h_1184 (ac_c (n := 0) h_1190 (ac_c (n := 0) h_1196 (ac_c (n := 0) h_1202 (ac_c (n := 0) h_1208 (ac_c (n := 0) h_1214 (ac_c (n := 0) h_1220 (ac_c (n := 0) h_1226 (ac_c (n := 0) h_1232 (ac_c (n := 0) h_1238 (ac_c (n := 0) h_1244 (ac_c (n := 0) h_1250 (ac_c (n := 0) h_1256 ac_n))))))))))))))))))))))))))))))))))))))))))
def imcs : List (Nat × ACt) := [(0, c_1012), (0, c_1018), (0, c_1024), (0, c_1030), (0, c_1036), (0, c_1042), (0, c_1048), (0, c_1054), (0, c_1060), (0, c_1066), (0, c_1072), (0, c_1078), (0, c_1084), (0, c_1090), (0, c_1096), (0, c_1102), (0, c_1108), (0, c_1114), (0, c_1120), (0, c_1126), (0, c_1132), (0, c_1138), (0, c_1144), (0, c_1150), (0, c_1156), (0, c_1162), (0, c_1168), (0, c_1174), (0, c_1180), (0, c_1186), (0, c_1192), (0, c_1198), (0, c_1204), (0, c_1210), (0, c_1216), (0, c_1222), (0, c_1228), (0, c_1234), (0, c_1240), (0, c_1246), (0, c_1252), (0, c_1258)]
theorem imcs_h : ∀ c ∈ imcs, AHp w_W w_P c.2 := (ac_c (n := 0) h_1012 (ac_c (n := 0) h_1018 (ac_c (n := 0) h_1024 (ac_c (n := 0) h_1030 (ac_c (n := 0) h_1036 (ac_c (n := 0) h_1042 (ac_c (n := 0) h_1048 (ac_c (n := 0) h_1054 (ac_c (n := 0) h_1060 (ac_c (n := 0) h_1066 (ac_c (n := 0) h_1072 (ac_c (n := 0) h_1078 (ac_c (n := 0) h_1084 (ac_c (n := 0) h_1090 (ac_c (n := 0) h_1096 (ac_c (n := 0) h_1102 (ac_c (n := 0) h_1108 (ac_c (n := 0) h_1114 (ac_c (n := 0) h_1120 (ac_c (n := 0) h_1126 (ac_c (n := 0) h_1132 (ac_c (n := 0) h_1138 (ac_c (n := 0) h_1144 (ac_c (n := 0) h_1150 (ac_c (n := 0) h_1156 (ac_c (n := 0) h_1162 (ac_c (n := 0) h_1168 (ac_c (n := 0) h_1174 (ac_c (n := 0) h_1180 (ac_c (n := 0) h_1186 (ac_c (n := 0) h_1192 (ac_c (n := 0) h_1198 (ac_c (n := 0) h_1204 (ac_c (n := 0) h_1210 (ac_c (n := 0) h_1216 (ac_c (n := 0) h_1222 (ac_c (n := 0) h_1228 (ac_c (n := 0) h_1234 (ac_c (n := 0) h_1240 (ac_c (n := 0) h_1246 (ac_c (n := 0) h_1252 (ac_c (n := 0) h_1258 ac_n))))))))))))))))))))))))))))))))))))))))))
def uncs : List (Nat × ACt) := [(0, c_1014), (0, c_1020), (0, c_1026), (0, c_1032), (0, c_1038), (0, c_1044), (0, c_1050), (0, c_1056), (0, c_1062), (0, c_1068), (0, c_1074), (0, c_1080), (0, c_1086), (0, c_1092), (0, c_1098), (0, c_1104), (0, c_1110), (0, c_1116), (0, c_1122), (0, c_1128), (0, c_1134), (0, c_1140), (0, c_1146), (0, c_1152), (0, c_1158), (0, c_1164), (0, c_1170), (0, c_1176), (0, c_1182), (0, c_1188), (0, c_1194), (0, c_1200), (0, c_1206), (0, c_1212), (0, c_1218), (0, c_1224), (0, c_1230), (0, c_1236), (0, c_1242), (0, c_1248), (0, c_1254), (0, c_1260)]
theorem uncs_h : ∀ c ∈ uncs, AHp w_W w_P c.2 := (ac_c (n := 0) h_1014 (ac_c (n := 0) h_1020 (ac_c (n := 0) h_1026 (ac_c (n := 0) h_1032 (ac_c (n := 0) h_1038 (ac_c (n := 0) h_1044 (ac_c (n := 0) h_1050 (ac_c (n := 0) h_1056 (ac_c (n := 0) h_1062 (ac_c (n := 0) h_1068 (ac_c (n := 0) h_1074 (ac_c (n := 0) h_1080 (ac_c (n := 0) h_1086 (ac_c (n := 0) h_1092 (ac_c (n := 0) h_1098 (ac_c (n := 0) h_1104 (ac_c (n := 0) h_1110 (ac_c (n := 0) h_1116 (ac_c (n := 0) h_1122 (ac_c (n := 0) h_1128 (ac_c (n := 0) h_1134 (ac_c (n := 0) h_1140 (ac_c (n := 0) h_1146 (ac_c (n := 0) h_1152 (ac_c (n := 0) h_1158 (ac_c (n := 0) h_1164 (ac_c (n := 0) h_1170 (ac_c (n := 0) h_1176 (ac_c (n := 0) h_1182 (ac_c (n := 0) h_1188 (ac_c (n := 0) h_1194 (ac_c (n := 0) h_1200 (ac_c (n := 0) h_1206 (ac_c (n := 0) h_1212 (ac_c (n := 0) h_1218 (ac_c (n := 0) h_1224 (ac_c (n := 0) h_1230 (ac_c (n := 0) h_1236 (ac_c (n := 0) h_1242 (ac_c (n := 0) h_1248 (ac_c (n := 0) h_1254 (ac_c (n := 0) h_1260 ac_n))))))))))))))))))))))))))))))))))))))))))

/-- exact answers: what is known where the argument's bounds meet -/
def obd (o : AAlt) : Int × Int := match o.2.2 with
  | [(1, lo, hi)] => (lo, hi)
  | _ => (-2147483648, 2147483647)
def osame (o p : AAlt) : Bool := match o.1, p.1, o.2.1, p.2.1 with
  | some a, some b, [(14, 11, s, s2)], [(66, 3, t, t2)] => (a.1 == 0 && b.1 == 0) && (decide (a.2.1 = a.2.2.1 ∧ b.2.1 = a.2.1 ∧ b.2.2.1 = a.2.1) && decide (s = s2 ∧ t = s ∧ t2 = s ∧ 0 ≤ s ∧ s ≤ 41))
  | _, _, _, _ => false
def ocross (l m : List AAlt) : Bool := l.all fun o => m.all fun p => decide ((obd o).2 < (obd p).1 ∨ (obd p).2 < (obd o).1) || osame o p
def rwok (n : Nat) (c m : ACt) : Bool := Nat.beq c.1.1 74 && (Nat.beq m.1.1 154 && (decide (c.1.2.1 = [avR 13, avT]) && (decide (m.1.2.1 = [avR 65, avT]) && (decide (c.2.1 = [(14, 11, (n : Int), (n : Int))]) && (decide (m.2.1 = [(66, 3, (n : Int), (n : Int))]) && (ocross c.1.2.2.1 m.1.2.2.1 && (decide (c.1.2.2.2.2 ≤ 11) && (decide (m.1.2.2.2.2 ≤ 11) && ((!ahit c.1.2.2.2.1 66 3 && (!ahit c.1.2.2.2.1 27 11 && (!(c.1.2.2.2.1.any fun w => Nat.beq w.1 67) && (!ahit c.1.2.2.2.1 13 2 && (!ahit c.1.2.2.2.1 65 3))))) && (!ahit m.1.2.2.2.1 14 11 && (!ahit m.1.2.2.2.1 27 11 && (!(m.1.2.2.2.1.any fun w => Nat.beq w.1 67) && (!ahit m.1.2.2.2.1 13 2 && (!ahit m.1.2.2.2.1 65 3))))))))))))))
theorem rw_ok : ((List.range 42).all fun n => match rwcs[n]?, rwms[n]? with
  | some c, some m => rwok n c.2 m.2
  | _, _ => false) = true := by decide +kernel
theorem nat_of {r : Int32} (h : 0 ≤ r.toInt ∧ r.toInt ≤ 41) : r.toInt.toNat < 42 ∧ ((r.toInt.toNat : Nat) : Int) = r.toInt := by omega
theorem gm_one {h : XH} {k r b : Nat} {x : Int32} {n : Nat} (ho : w_o r = true) (hk : k < 549) (hr : w_rg k = r) (hv : rd h k b = some (.int x)) (hx : ((n : Nat) : Int) = x.toInt) : gmem w_W h [(r, b, (n : Int), (n : Int))] := fun q hq z hz hzr => by
  rw [List.mem_singleton.mp hq] at hzr ⊢
  have e : z = k := w_one ho hz hk hzr hr
  subst e
  exact ⟨x, hv, by show (n : Int) ≤ _; omega, by show _ ≤ (n : Int); omega⟩
theorem gm_get {h : XH} {k r b : Nat} {s s2 : Int} {m : AM} (hk : k < 549) (hr : w_rg k = r) (hm : gmem w_W h m) (hi : (r, b, s, s2) ∈ m) : ∃ x : Int32, rd h k b = some (.int x) ∧ s ≤ x.toInt ∧ x.toInt ≤ s2 := hm _ hi k hk hr
theorem obd_ok {as : List Value} {o : AAlt} {a : Int32} (h1 : as[1]? = some (.int a)) (ho : ∀ q ∈ o.2.2, ∃ x : Int32, as[q.1]? = some (.int x) ∧ q.2.1 ≤ x.toInt ∧ x.toInt ≤ q.2.2) : (obd o).1 ≤ a.toInt ∧ a.toInt ≤ (obd o).2 := by
  unfold obd
  split
  · rename_i lo hi he
    obtain ⟨x, hx, e1, e2⟩ := ho (1, lo, hi) (by rw [he]; exact List.mem_singleton.mpr rfl)
    have hx : as[1]? = some (.int x) := hx
    rw [h1] at hx
    cases hx
    exact ⟨e1, e2⟩
  · exact ⟨i32_lo a, i32_hi a⟩
theorem J_row (a : Int32) {L : Nat} {xs : Nat → Int32} {h : XH} (hI : INV L xs h) : ∃ (v : Int32) (h1 h2 : XH), XCall xM 11 74 [.ref 13, .int a] h (some (.int v)) h1 ∧ AInv w_W h1 ∧ h1.2.2 1 = h.2.2 1 ∧ XCall xM 11 154 [.ref 536, .int a] h1 (some (.int v)) h2 ∧ INV L xs h2 := by
  obtain ⟨i1, i2, i3, ⟨r, q, x, hr, hq, r1, r2, r3, r4, r5, r6⟩, hsc⟩ := hI
  obtain ⟨n1, n2⟩ := nat_of hr
  have k := List.all_eq_true.mp rw_ok _ (List.mem_range.mpr n1)
  split at k
  · rename_i c m ec em
    have hc := rwcs_h c (List.mem_of_getElem? ec)
    have hm := rwms_h m (List.mem_of_getElem? em)
    obtain ⟨n0, c⟩ := c
    obtain ⟨n9, m⟩ := m
    dsimp only at k hc hm
    unfold rwok at k
    simp only [Bool.and_eq_true, decide_eq_true_eq, Bool.not_eq_true'] at k
    obtain ⟨a1, a2, a3, a4, a5, a6, a7, a8, a9, ⟨b1, b2, b3, b4, b5⟩, b6, b7, b8, b9, b10⟩ := k
    have a1 := Nat.eq_of_beq_eq_true a1
    have a2 := Nat.eq_of_beq_eq_true a2
    have b3 := w67 (ws := c.1.2.2.2.1) (by rw [b3]; rfl)
    have b8 := w67 (ws := m.1.2.2.2.1) (by rw [b8]; rfl)
    obtain ⟨v, h1, c1, c2, c3, c4, o, ho, o1, o2, o3⟩ := hc.2 [.ref 13, .int a] h i1 i2 (by rw [a3]; exact gal13 (galT a gal0)) (by rw [a5]; exact gm_one rfl (by decide) w_rg_14 r1 n2)
    have e1 := XCall.ext _ _ _ _ _ _ c1 (by rw [i1.1]; decide) 1 (by decide)
    have f2 := (rdF (b := 3) w_rg_537 (by decide) c4 b1).trans r2
    obtain ⟨w, h2, d1, d2, d3, d4, p, hp, p1, p2, p3⟩ := hm.2 [.ref 536, .int a] h1 c2 c3 (by rw [a4]; exact gal536 (galT a gal0)) (by rw [a6]; exact gm_one rfl (by decide) w_rg_537 f2 n2)
    have e2 := XCall.ext _ _ _ _ _ _ d1 (by rw [c2.1]; decide) 1 (by decide)
    have x1 := obd_ok (as := [.ref 13, .int a]) rfl o3
    have x2 := obd_ok (as := [.ref 536, .int a]) rfl p3
    have hx := List.all_eq_true.mp (List.all_eq_true.mp a7 o ho) p hp
    simp only [Bool.or_eq_true, decide_eq_true_eq] at hx
    have hx := hx.resolve_left (by omega)
    unfold osame at hx
    split at hx
    · rename_i ea eb s s2 t t2 ho1 hp1 ho2 hp2
      simp only [Bool.and_eq_true, beq_iff_eq, decide_eq_true_eq] at hx
      obtain ⟨⟨y1, y2⟩, ⟨y3, y4, y5⟩, y6, y7, y8, y9, y10⟩ := hx
      have q1 := o1.1
      have q2 := p1.1
      unfold aans at q1 q2
      rw [ho1] at q1
      rw [hp1] at q2
      obtain ⟨z1, rfl, g1⟩ := q1
      obtain ⟨z2, rfl, g2⟩ := q2
      obtain ⟨u1, rfl, l1, l2⟩ := ga_int y1 g1
      obtain ⟨u2, rfl, l3, l4⟩ := ga_int y2 g2
      have hu : u1 = u2 := Int32.toInt_inj.mp (by omega)
      subst hu
      obtain ⟨w1, k1, k2, k3⟩ := gm_get (k := 14) (b := 11) (by decide) w_rg_14 o2 (by rw [ho2]; exact List.mem_singleton.mpr rfl)
      obtain ⟨w2, k4, k5, k6⟩ := gm_get (k := 537) (b := 3) (by decide) w_rg_537 p2 (by rw [hp2]; exact List.mem_singleton.mpr rfl)
      have hw : w1 = w2 := Int32.toInt_inj.mp (by omega)
      subst hw
      refine ⟨u1, h1, h2, by rw [← a1]; exact XCall.up a8 c1, c2, e1, by rw [← a2]; exact XCall.up a9 d1, d2, d3, ?_, ⟨w1, q, x, by omega, hq, ?_, k4, ?_, ?_, ?_, ?_⟩, e2.trans (e1.trans hsc)⟩
      · exact PInv.out (P := (67, w_P.2)) d4 b8 (PInv.out (P := (67, w_P.2)) c4 b3 i3)
      · exact (rdF (b := 11) w_rg_14 (by decide) d4 b6).trans k1
      · exact (rdF (b := 11) w_rg_42 (by decide) d4 b7).trans ((rdF (b := 11) w_rg_42 (by decide) c4 b2).trans r3)
      · exact (d4 538 3 (by decide) fun w hw hc => b8 w hw (hc.1.trans ((w_W1 538).trans w_rg_538))).trans ((c4 538 3 (by decide) fun w hw hc => b3 w hw (hc.1.trans ((w_W1 538).trans w_rg_538))).trans r4)
      · exact (rdF (b := 2) w_rg_13 (by decide) d4 b9).trans ((rdF (b := 2) w_rg_13 (by decide) c4 b4).trans r5)
      · exact (rdF (b := 3) w_rg_536 (by decide) d4 b10).trans ((rdF (b := 3) w_rg_536 (by decide) c4 b5).trans r6)
    · cases hx
  · cases k
