/-! a course of the class, at the places from b on -/
def coF (b : Nat) (i lt ld an wn dn : Int32) : List Value := [.int i, .ref (b + 1), .ref (b + 2), .ref (b + 3), .ref (b + 4), .ref (b + 5), .ref (b + 6), .int lt, .int ld, .int an, .int wn, .int dn]
/-- what a course counts while it goes: alive, wed, deeds; births, deaths, children -/
abbrev CX := (Int32 × Int32 × Int32) × (Nat → Int32) × (Nat → Int32) × (Nat → Int32)
/-- its object and the three rows that coming changes -/
def CR (h : XH) (b : Nat) (i lt ld : Int32) (x : CX) : Prop := h.2.2 b = .inl (0, coF b i lt ld x.1.1 x.1.2.1 x.1.2.2) ∧ h.2.2 (b + 4) = .inr (.inl (0, 14, x.2.1)) ∧ h.2.2 (b + 5) = .inr (.inl (0, 14, x.2.2.1)) ∧ h.2.2 (b + 6) = .inr (.inl (0, 14, x.2.2.2))
/-- only the object and those rows are written -/
def CRo (b : Nat) (h h1 : XH) : Prop := h1.1 = h.1 ∧ h1.2.1 = h.2.1 ∧ ∀ k, ¬ (k = b ∨ k = b + 4 ∨ k = b + 5 ∨ k = b + 6) → h1.2.2 k = h.2.2 k
theorem CRo.refl (b : Nat) (h : XH) : CRo b h h := ⟨rfl, rfl, fun _ _ => rfl⟩
theorem CRo.trans {b : Nat} {h h1 h2 : XH} (a : CRo b h h1) (c : CRo b h1 h2) : CRo b h h2 := ⟨c.1.trans a.1, c.2.1.trans a.2.1, fun k hk => (c.2.2 k hk).trans (a.2.2 k hk)⟩
theorem CRo.up {b : Nat} {h : XH} {p : Nat} (hp : p = b ∨ p = b + 4 ∨ p = b + 5 ∨ p = b + 6) (e : XE) : CRo b h (xup h p e) := ⟨rfl, rfl, fun k hk => xup_ne h e (fun q => hk (by rw [q]; exact hp))⟩
theorem ch_put {ch : Nat → Int32} {w : Int32} {v : Int32} : (if w < 0 ∨ 14 ≤ w.toNatClampNeg then ch else upd ch w.toNatClampNeg v) = (fun j => if ¬ (w < 0 ∨ 14 ≤ w.toNatClampNeg) ∧ j = w.toNatClampNeg then v else ch j) := by
  by_cases c : w < 0 ∨ 14 ≤ w.toNatClampNeg
  · rw [if_pos c]
    funext j
    rw [if_neg (fun q => q.1 c)]
  · rw [if_neg c]
    funext j
    by_cases e : j = w.toNatClampNeg
    · rw [if_pos ⟨c, e⟩, e, upd_at]
    · rw [if_neg (fun q => e q.2), upd_ne e]
def coK (ch : Nat → Int32) (p : Int32) (c : Nat) : Nat → Int32 := if p < 0 ∨ 14 ≤ p.toNatClampNeg then ch else upd ch p.toNatClampNeg (ch p.toNatClampNeg ||| (Int32.ofInt 1 <<< (nI c &&& 31)))
set_option maxRecDepth 100000 in
/-- a child more of a parent -/
theorem k_addChild (d : Nat) {h : XH} {b : Nat} {i lt ld : Int32} {x : CX} (hr : CR h b i lt ld x) (h13 : 13 ≤ b) (hb : b + 6 < h.1) (p : Int32) (c : Nat) : ∃ h1 : XH, XCall xM (d + 2) 3 [.ref b, .int p, .int (nI c)] h none h1 ∧ CRo b h h1 ∧ CR h1 b i lt ld (x.1, x.2.1, x.2.2.1, coK x.2.2.2 p c) := by
  obtain ⟨r0, r4, r5, r6⟩ := hr
  obtain ⟨⟨an, wn, dn⟩, bi, dt, ch⟩ := x
  dsimp only at r0 r4 r5 r6 ⊢
  have l0 : b < h.1 := by omega
  have e6 : (coF b i lt ld an wn dn)[6]? = some (.ref (b + 6)) := rfl
  have q := k_put d h (b + 6) 14 ch p ((if p < 0 ∨ 14 ≤ p.toNatClampNeg then 0 else ch p.toNatClampNeg) ||| (Int32.ofInt 1 <<< (nI c &&& 31))) r6 hb (by omega) (by decide)
  refine ⟨_, XCall.of (M := xm_X0_addChild) rfl (Nat.le_of_ble_eq_true rfl) (?_ : XGo (d + 1) xm_X0_addChild _ _ (if p < 0 ∨ 14 ≤ p.toNatClampNeg then h else xup h (b + 6) (.inr (.inl (0, 14, upd ch p.toNatClampNeg ((if p < 0 ∨ 14 ≤ p.toNatClampNeg then 0 else ch p.toNatClampNeg) ||| (Int32.ofInt 1 <<< (nI c &&& 31)))))))), ?_, ?_⟩
  · refine XGo.go 1 rfl ?_
    refine XGo.getf rfl (xfd_o r0 l0 h13 e6) ?_
    refine XGo.go 2 rfl ?_
    refine XGo.getf rfl (xfd_o r0 l0 h13 e6) ?_
    refine XGo.go 1 rfl ?_
    refine XGo.call _ rfl xm_X6_at rfl rfl [.ref (b + 6), .int p] [.int p, .ref (b + 6)] rfl rfl (fun z => absurd rfl z) (Nat.le_of_ble_eq_true rfl) (k_at d h (b + 6) 14 ch p r6 hb (by decide)) ?_
    refine XGo.go 4 rfl ?_
    refine XGo.call _ rfl xm_X6_put rfl rfl [.ref (b + 6), .int p, .int ((if p < 0 ∨ 14 ≤ p.toNatClampNeg then 0 else ch p.toNatClampNeg) ||| (Int32.ofInt 1 <<< (nI c &&& 31)))] [] rfl rfl (fun z => absurd rfl z) (Nat.le_of_ble_eq_true rfl) q ?_
    exact XGo.vret _ rfl rfl rfl
  · by_cases z : p < 0 ∨ 14 ≤ p.toNatClampNeg
    · rw [if_pos z]
      exact CRo.refl b h
    · rw [if_neg z]
      exact CRo.up (Or.inr (Or.inr (Or.inr rfl))) _
  · unfold coK
    by_cases z : p < 0 ∨ 14 ≤ p.toNatClampNeg
    · rw [if_pos z, if_pos z]
      exact ⟨r0, r4, r5, r6⟩
    · rw [if_neg z, if_neg z, if_neg z]
      exact ⟨(xup_ne _ _ (by omega)).trans r0, (xup_ne _ _ (by omega)).trans r4, (xup_ne _ _ (by omega)).trans r5, xup_eq _ _ _⟩
