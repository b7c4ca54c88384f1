/-! what calls leave -/
theorem xhp_ext {ins : Instr} {a b : Nat} {st : List Value} {h : XH} {o : Nat × List Value × XH} (hs : xhp ins a b st h = some o) (h2 : 13 ≤ h.1) : ∀ j, j < 13 → o.2.2.2.2 j = h.2.2 j := by
  have key : ∀ (k : Nat) (e : XE), 13 ≤ k → ∀ j, j < 13 → (xup h k e).2.2 j = h.2.2 j := fun k e hk j hj => if_neg (by omega)
  have keyn : ∀ (n : Nat) (e : XE), ∀ j, j < 13 → (xnew h n e).2.2 j = h.2.2 j := fun n e j hj => if_neg (by omega)
  cases ins with
  | putfield idx =>
    simp only [xhp] at hs
    split at hs
    · split at hs
      · split at hs
        · rename_i hc
          have h4 := hc.2.1
          cases hs
          exact key _ _ h4
        · cases hs
      · cases hs
    · cases hs
  | iastore =>
    simp only [xhp] at hs
    split at hs
    · split at hs
      · split at hs
        · rename_i hc
          have h4 := hc.2.1
          cases hs
          exact key _ _ h4
        · cases hs
      · cases hs
    · cases hs
  | bastore =>
    simp only [xhp] at hs
    split at hs
    · split at hs
      · split at hs
        · rename_i hc
          have h4 := hc.2.1
          cases hs
          exact key _ _ h4
        · cases hs
      · cases hs
    · cases hs
  | aastore =>
    simp only [xhp] at hs
    split at hs
    · split at hs
      · split at hs
        · rename_i hc
          have h4 := hc.2.1
          cases hs
          exact key _ _ h4
        · cases hs
      · cases hs
    · cases hs
  | new idx => cases hs; exact keyn _ _
  | newarray ty =>
    simp only [xhp] at hs
    split at hs
    · split at hs
      · cases hs
        exact keyn _ _
      · cases hs
    · cases hs
  | anewarray idx =>
    simp only [xhp] at hs
    split at hs
    · split at hs
      · cases hs
        exact keyn _ _
      · cases hs
    · cases hs
  | invokestatic idx =>
    simp only [xhp] at hs
    split at hs
    · split at hs
      · split at hs
        · split at hs
          · rename_i hc
            have h4 := hc.2.1
            cases hs
            exact key _ _ h4
          · cases hs
        · cases hs
      · cases hs
    · split at hs
      · split at hs
        · split at hs
          · cases hs
            exact fun _ _ => rfl
          · cases hs
        · cases hs
      · cases hs
  | _ => simp [xhp] at hs
theorem XStep.ext {call : XCl} {M : XMeth} {c c1 : XC} (hc : ∀ i as h v h1, call i as h v h1 → 13 ≤ h.1 → ∀ j, j < 13 → h1.2.2 j = h.2.2 j) (h : XStep xM call M c c1) (h2 : 13 ≤ c.2.2.2.1) : ∀ j, j < 13 → c1.2.2.2.2.2 j = c.2.2.2.2.2 j := by
  obtain ⟨r, -, -, ⟨o, -, rfl⟩ | ⟨o, h1, rfl⟩ | ⟨M1, as, rest, v, h1, -, -, -, -, -, -, h3, rfl⟩⟩ := h
  · exact fun _ _ => rfl
  · exact xhp_ext h1 h2
  · exact hc _ _ _ _ _ h3 h2
theorem XRuns.ext {d : Nat} {M : XMeth} (hc : ∀ i as h v h1, XCall xM d i as h v h1 → 13 ≤ h.1 → ∀ j, j < 13 → h1.2.2 j = h.2.2 j) : ∀ (n : Nat) {c c1 : XC}, XRuns xM (XCall xM d) M n c c1 → 13 ≤ c.2.2.2.1 → ∀ j, j < 13 → c1.2.2.2.2.2 j = c.2.2.2.2.2 j
  | 0, c, c1, h, h2 => by cases h; exact fun _ _ => rfl
  | n + 1, c, c1, h, h2 => by
    obtain ⟨c2, h1, h3⟩ := h
    intro j hj
    exact (XRuns.ext hc n h3 (Nat.le_trans h2 (h1.mono (XCall.mono d)).1) j hj).trans (h1.ext hc h2 j hj)
theorem XCall.ext : ∀ (d i : Nat) (as : List Value) (h : XH) (v : Option Value) (h1 : XH), XCall xM d i as h v h1 → 13 ≤ h.1 → ∀ j, j < 13 → h1.2.2 j = h.2.2 j
  | 0, _, _, _, _, _, h => False.elim h
  | d + 1, i, as, h, v, h1, hc => by
    obtain ⟨M, n, c, -, -, hr, -, rfl⟩ := hc
    exact fun h2 => XRuns.ext (XCall.ext d) n hr h2
/-! who makes nothing leaves the heap's length -/
def xnz (r : XRow) : Bool := match r.2.1 with
  | .new _ => false
  | .newarray _ => false
  | .anewarray _ => false
  | .invokespecial _ => r.2.2.2.1 == 999
  | _ => true
theorem xMs_nz : xMs.all (fun M => xmK M == 2 || (xmT M).all xnz) = true := by decide +kernel
theorem xM_999 : xM 999 = none := List.getElem?_eq_none (by decide +kernel)
theorem xhp_siz {r : XRow} {st : List Value} {h : XH} {o : Nat × List Value × XH} (hs : xhp r.2.1 r.2.2.2.1 r.2.2.2.2.1 st h = some o) (hn : xnz r = true) : o.2.2.1 = h.1 ∧ o.2.2.2.1 = h.2.1 := by
  obtain ⟨pc, ins, len, a, b, w⟩ := r
  dsimp only at hs
  unfold xhp at hs
  repeat' split at hs
  all_goals first | (cases hs; done) | (cases hs; first | exact ⟨rfl, rfl⟩ | (simp [xnz] at hn; done))
theorem XStep.siz {call : XCl} {M : XMeth} {c c1 : XC} (hc : ∀ i as h v h1 M1, xM i = some M1 → xmK M1 ≠ 2 → call i as h v h1 → h1.1 = h.1 ∧ h1.2.1 = h.2.1) (hM : (xmT M).all xnz = true) (h : XStep xM call M c c1) : c1.2.2.2.1 = c.2.2.2.1 ∧ c1.2.2.2.2.1 = c.2.2.2.2.1 := by
  obtain ⟨r, hr, -, ⟨o, -, rfl⟩ | ⟨o, h1, rfl⟩ | ⟨M1, as, rest, v, h1, hm, hi, -, -, -, -, h3, rfl⟩⟩ := h
  · exact ⟨rfl, rfl⟩
  · exact xhp_siz h1 (List.all_eq_true.mp hM r hr)
  · refine hc _ _ _ _ _ M1 hm (fun e => ?_) h3
    have hz := List.all_eq_true.mp hM r hr
    obtain ⟨pc, ins, len, a, b, w⟩ := r
    dsimp only at hm hi
    rw [e] at hi
    unfold xinv at hi
    split at hi
    · cases hi
    · cases hi
    · simp only [xnz, beq_iff_eq] at hz
      rw [hz, xM_999] at hm
      cases hm
    · cases hi
theorem XRuns.siz {d : Nat} {M : XMeth} (hc : ∀ i as h v h1 M1, xM i = some M1 → xmK M1 ≠ 2 → XCall xM d i as h v h1 → h1.1 = h.1 ∧ h1.2.1 = h.2.1) (hM : (xmT M).all xnz = true) : ∀ (n : Nat) {c c1 : XC}, XRuns xM (XCall xM d) M n c c1 → c1.2.2.2.1 = c.2.2.2.1 ∧ c1.2.2.2.2.1 = c.2.2.2.2.1
  | 0, c, c1, h => by cases h; exact ⟨rfl, rfl⟩
  | n + 1, c, c1, h => by
    obtain ⟨c2, h1, h3⟩ := h
    have a := h1.siz hc hM
    have b := XRuns.siz hc hM n h3
    exact ⟨b.1.trans a.1, b.2.trans a.2⟩
theorem XCall.siz : ∀ (d i : Nat) (as : List Value) (h : XH) (v : Option Value) (h1 : XH) (M : XMeth), xM i = some M → xmK M ≠ 2 → XCall xM d i as h v h1 → h1.1 = h.1 ∧ h1.2.1 = h.2.1
  | 0, _, _, _, _, _, _, _, _, h => False.elim h
  | d + 1, i, as, h, v, h1, M, hm, hk, hc => by
    obtain ⟨M1, n, c, hm1, -, hr, -, rfl⟩ := hc
    rw [hm] at hm1
    cases hm1
    have hz := List.all_eq_true.mp xMs_nz M (List.mem_of_getElem? hm)
    simp only [Bool.or_eq_true, beq_iff_eq] at hz
    exact XRuns.siz (fun i as h v h1 M1 => XCall.siz d i as h v h1 M1) (hz.resolve_left hk) n hr

def wsafe (ws : AWr) : Bool := !ahit ws 14 11 && (!ahit ws 66 3 && (!ahit ws 27 11 && (!(ws.any fun w => Nat.beq w.1 67) && (!ahit ws 13 2 && !ahit ws 65 3))))
theorem rdF {ws : AWr} {h h1 : XH} {k r b : Nat} (hr : w_rg k = r) (hk : k < 549) (hF : AFr w_W ws h h1) (hh : ahit ws r (b : Int) = false) : rd h1 k b = rd h k b := hF k b hk (fun w hw hc => ahit_no (ws := ws) (r := r) (b := (b : Int)) (by rw [hh]; decide) w hw ⟨hc.1.trans ((w_W1 k).trans hr), hc.2⟩)
theorem w67 {ws : AWr} (h : (!(ws.any fun w => Nat.beq w.1 67)) = true) : ∀ w ∈ ws, ¬ w.1 = 67 := fun w hw e => by
  have : (ws.any fun w => Nat.beq w.1 67) = true := List.any_eq_true.mpr ⟨w, hw, by rw [e]; rfl⟩
  rw [this] at h
  cases h
theorem inv_fr {L : Nat} {xs : Nat → Int32} {ws : AWr} {h h1 : XH} (hI : INV L xs h) (h2 : AInv w_W h1) (h3 : PInv w_W w_P h1 []) (hF : AFr w_W ws h h1) (hs : wsafe ws = true) (he : h1.2.2 1 = h.2.2 1) : INV L xs h1 := by
  unfold wsafe at hs
  simp only [Bool.and_eq_true, Bool.not_eq_true'] at hs
  obtain ⟨s1, s2, s3, s4, s5, s6⟩ := hs
  obtain ⟨-, -, p2, ⟨r, q, x, hr, hq, r1, r2, r3, r4, r5, r6⟩, hsc⟩ := hI
  have s4' := w67 (ws := ws) (by rw [s4]; rfl)
  refine ⟨h2, h3, PInv.o67 hF s4' p2, ⟨r, q, x, hr, hq, ?_, ?_, ?_, ?_, ?_, ?_⟩, he.trans hsc⟩
  · exact (rdF (b := 11) w_rg_14 (by decide) hF s1).trans r1
  · exact (rdF (b := 3) w_rg_537 (by decide) hF s2).trans r2
  · exact (rdF (b := 11) w_rg_42 (by decide) hF s3).trans r3
  · refine (hF 538 3 (by decide) fun w hw hc => s4' w hw (hc.1.trans ((w_W1 538).trans w_rg_538))).trans r4
  · exact (rdF (b := 2) w_rg_13 (by decide) hF s5).trans r5
  · exact (rdF (b := 3) w_rg_536 (by decide) hF s6).trans r6
def aints (l : List AAlt) : Bool := l.all fun o => match o.1 with
  | some a => a.1 == 0
  | none => false
theorem aints_ok {h : XH} {l : List AAlt} (hl : aints l = true) {o : AAlt} (ho : o ∈ l) {v : Option Value} (ha : aansH w_W h o.1 v) : ∃ x : Int32, v = some (.int x) := by
  have k := List.all_eq_true.mp hl o ho
  have ha := ha.1
  unfold aans at ha
  split at k
  · rename_i a he
    rw [he] at ha
    obtain ⟨w, rfl, hw⟩ := ha
    obtain ⟨x, rfl, -⟩ := ga_int (by simpa using k) hw
    exact ⟨x, rfl⟩
  · cases k
/-- one side's call that leaves what the sides have in common -/
theorem J_one {c : ACt} (hc : AHp w_W w_P c) (hs : wsafe c.1.2.2.2.1 = true) (ho : aints c.1.2.2.1 = true) (hm : c.2.1 = []) (hd : c.1.2.2.2.2 ≤ 11) {as : List Value} (ha : gal w_W c.1.2.1 as) {L : Nat} {xs : Nat → Int32} {h : XH} (hI : INV L xs h) : ∃ (v : Int32) (h1 : XH), XCall xM 11 c.1.1 as h (some (.int v)) h1 ∧ INV L xs h1 := by
  obtain ⟨v, h1, k1, k2, k3, k4, o, ho2, o1, -, -⟩ := hc.2 as h hI.1 hI.2.1 ha (by rw [hm]; exact fun q hq => by cases hq)
  obtain ⟨x, rfl⟩ := aints_ok ho ho2 o1
  have e := XCall.ext _ _ _ _ _ _ k1 (by rw [hI.1.1]; decide) 1 (by decide)
  exact ⟨x, h1, XCall.up hd k1, inv_fr hI k2 k3 k4 hs e⟩
theorem w_ga536 : ga w_W (avR 65) (.ref 536) := by
  have q : ∃ j : Nat, Value.ref 536 = .ref j ∧ w_W.1 j = 65 ∧ j < w_W.2.2.2.1 := ⟨536, rfl, (w_W1 536).trans w_rg_536, by decide⟩
  exact q
theorem w_ga13 : ga w_W (avR 13) (.ref 13) := by
  have q : ∃ j : Nat, Value.ref 13 = .ref j ∧ w_W.1 j = 13 ∧ j < w_W.2.2.2.1 := ⟨13, rfl, (w_W1 13).trans w_rg_13, by decide⟩
  exact q
theorem gal0 : gal w_W [] [] := trivial
theorem galT (x : Int32) {B : List AV} {as : List Value} (h : gal w_W B as) : gal w_W (avT :: B) (.int x :: as) := ⟨ga_of rfl (gi_T x), h⟩
theorem galL (x : Int64) {B : List AV} {as : List Value} (h : gal w_W B as) : gal w_W (avL :: B) (.long x :: as) := ⟨⟨x, rfl⟩, h⟩
theorem gal13 {B : List AV} {as : List Value} (h : gal w_W B as) : gal w_W (avR 13 :: B) (.ref 13 :: as) := ⟨w_ga13, h⟩
theorem gal536 {B : List AV} {as : List Value} (h : gal w_W B as) : gal w_W (avR 65 :: B) (.ref 536 :: as) := ⟨w_ga536, h⟩
