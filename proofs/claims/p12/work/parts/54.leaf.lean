/-! leaves of both sides, said exactly -/
theorem xnat_le {n : Nat} {i : Int32} (hn : n < 2147483648) (h0 : ¬ i < 0) : Int32.ofNat n ≤ i ↔ n ≤ i.toNatClampNeg := by
  rw [Int32.le_iff_toInt_le]
  have h1 : (Int32.ofNat n).toInt = n := nI_toInt hn
  have h2 : (0 : Int) ≤ i.toInt := by
    have := Int32.not_lt.mp h0
    simpa using Int32.le_iff_toInt_le.mp this
  rw [h1]
  show (n : Int) ≤ i.toInt ↔ n ≤ i.toInt.toNat
  omega
/-- LifeGrants.at -/
theorem k_at (d : Nat) (h : XH) (r n : Nat) (f : Nat → Int32) (i : Int32) (hr : h.2.2 r = .inr (.inl (0, n, f))) (hk : r < h.1) (hn : n < 2147483648) : XCall xM (d + 1) 102 [.ref r, .int i] h (some (.int (if i < 0 ∨ n ≤ i.toNatClampNeg then 0 else f i.toNatClampNeg))) h := by
  refine XCall.of (M := xm_X6_at) rfl (Nat.le_of_ble_eq_true rfl) ?_
  refine XGo.go 2 rfl ?_
  by_cases h0 : i < 0
  · refine XGo.ifp h0 ?_
    refine XGo.go 1 rfl ?_
    rw [if_pos (Or.inl h0)]
    exact XGo.iret _ rfl rfl .int rfl rfl
  · refine XGo.ifn h0 ?_
    refine XGo.go 2 rfl ?_
    refine XGo.alen rfl (xlen_i hr hk (by decide)) ?_
    refine XGo.go 1 rfl ?_
    by_cases h1 : n ≤ i.toNatClampNeg
    · refine XGo.ifp ((xnat_le hn h0).mpr h1) ?_
      refine XGo.go 1 rfl ?_
      rw [if_pos (Or.inr h1)]
      exact XGo.iret _ rfl rfl .int rfl rfl
    · refine XGo.ifn (fun q => h1 ((xnat_le hn h0).mp q)) ?_
      refine XGo.go 2 rfl ?_
      have hc : ¬ (i < 0 ∨ n ≤ i.toNatClampNeg) := fun q => q.elim h0 h1
      refine XGo.iald rfl (xia_i hr hk hc) ?_
      refine XGo.go 1 rfl ?_
      rw [if_neg hc]
      exact XGo.iret _ rfl rfl .int rfl rfl
/-- LifeGrants.put -/
theorem k_put (d : Nat) (h : XH) (r n : Nat) (f : Nat → Int32) (i x : Int32) (hr : h.2.2 r = .inr (.inl (0, n, f))) (hk : r < h.1) (h2 : 13 ≤ r) (hn : n < 2147483648) : XCall xM (d + 1) 103 [.ref r, .int i, .int x] h none (if i < 0 ∨ n ≤ i.toNatClampNeg then h else xup h r (.inr (.inl (0, n, upd f i.toNatClampNeg x)))) := by
  refine XCall.of (M := xm_X6_put) rfl (Nat.le_of_ble_eq_true rfl) ?_
  refine XGo.go 1 rfl ?_
  refine XGo.go 1 rfl ?_
  by_cases h0 : i < 0
  · refine XGo.ifp h0 ?_
    rw [if_pos (Or.inl h0)]
    exact XGo.vret _ rfl rfl rfl
  · refine XGo.ifn h0 ?_
    refine XGo.go 2 rfl ?_
    refine XGo.alen rfl (xlen_i hr hk (by decide)) ?_
    refine XGo.go 1 rfl ?_
    by_cases h1 : n ≤ i.toNatClampNeg
    · refine XGo.ifp ((xnat_le hn h0).mpr h1) ?_
      rw [if_pos (Or.inr h1)]
      exact XGo.vret _ rfl rfl rfl
    · refine XGo.ifn (fun q => h1 ((xnat_le hn h0).mp q)) ?_
      have hc : ¬ (i < 0 ∨ n ≤ i.toNatClampNeg) := fun q => q.elim h0 h1
      refine XGo.go 3 rfl ?_
      refine XGo.iast rfl hr hk h2 hc ?_
      rw [if_neg hc]
      exact XGo.vret _ rfl rfl rfl
def xin (v lo hi : Int32) : Int32 := if v < lo then 0 else if hi < v then 0 else 1
theorem k_in (d : Nat) (h : XH) (v lo hi : Int32) : XCall xM (d + 1) 107 [.int v, .int lo, .int hi] h (some (.int (xin v lo hi))) h := by
  refine XCall.of (M := xm_X7_in) rfl (Nat.le_of_ble_eq_true rfl) ?_
  refine XGo.go 3 rfl ?_
  unfold xin
  refine XGo.spl (fun h1 => ?_) (fun h1 => ?_)
  · rw [if_pos h1]
    refine XGo.go 1 rfl ?_
    exact XGo.iret _ rfl rfl .boolean rfl rfl
  · rw [if_neg h1]
    refine XGo.go 3 rfl ?_
    refine XGo.spl (fun h2 => ?_) (fun h2 => ?_)
    · rw [if_pos h2]
      refine XGo.go 1 rfl ?_
      exact XGo.iret _ rfl rfl .boolean rfl rfl
    · rw [if_neg h2]
      refine XGo.go 2 rfl ?_
      exact XGo.iret _ rfl rfl .boolean rfl rfl
theorem k_put_in (d : Nat) (h : XH) (r n : Nat) (f : Nat → Int32) (i x : Int32) (hr : h.2.2 r = .inr (.inl (0, n, f))) (hk : r < h.1) (h2 : 13 ≤ r) (hn : n < 2147483648) (hi : ¬ (i < 0 ∨ n ≤ i.toNatClampNeg)) : XCall xM (d + 1) 103 [.ref r, .int i, .int x] h none (xup h r (.inr (.inl (0, n, upd f i.toNatClampNeg x)))) := by
  have g := k_put d h r n f i x hr hk h2 hn
  rw [if_neg hi] at g
  exact g
/-- World.isPerson, isChild while there is nobody -/
theorem k_isPerson (d : Nat) {h : XH} {w n : Nat} {fw : List Value} (hw : h.2.2 w = .inl (5, fw)) (h0 : fw[0]? = some (.int (nI n))) (hk : w < h.1) (h13 : 13 ≤ w) (p : Int32) : XCall xM (d + 1) 55 [.ref w, .int p] h (some (.int (if 0 ≤ p ∧ p < nI n then 1 else 0))) h := by
  refine XCall.of (M := xm_X5_isPerson) rfl (Nat.le_of_ble_eq_true rfl) ?_
  refine XGo.go 2 rfl ?_
  by_cases h1 : p < 0
  · refine XGo.ifp h1 ?_
    rw [if_neg (fun q => Int32.not_lt.mpr q.1 h1)]
    refine XGo.go 1 rfl ?_
    exact XGo.iret _ rfl rfl .boolean rfl rfl
  · refine XGo.ifn h1 ?_
    refine XGo.go 2 rfl ?_
    refine XGo.getf rfl (xfd_o hw hk h13 h0) ?_
    refine XGo.go 1 rfl ?_
    by_cases h2 : nI n ≤ p
    · refine XGo.ifp h2 ?_
      rw [if_neg (fun q => Int32.not_le.mpr q.2 h2)]
      refine XGo.go 1 rfl ?_
      exact XGo.iret _ rfl rfl .boolean rfl rfl
    · refine XGo.ifn h2 ?_
      rw [if_pos ⟨Int32.not_lt.mp h1, Int32.not_le.mp h2⟩]
      refine XGo.go 2 rfl ?_
      exact XGo.iret _ rfl rfl .boolean rfl rfl
/-- why a person is refused; 0: it isn't -/
def pcode (n : Nat) (f : Nat → Int32) (a p : Int32) : Int32 := if ¬ p = Int32.ofInt (-1) ∧ ¬ (0 ≤ p ∧ p < nI n) then Int32.ofInt (-1) else if a < 0 ∨ ¬ a ≤ (Int8.ofInt 90).toInt32 then (Int8.ofInt (-2)).toInt32 else if ¬ p = Int32.ofInt (-1) ∧ f p.toNatClampNeg ≤ a then (Int8.ofInt (-3)).toInt32 else if 8 ≤ n then (Int8.ofInt (-4)).toInt32 else 0
theorem pcode_1 {n : Nat} {f : Nat → Int32} {a p : Int32} (h : ¬ p = Int32.ofInt (-1) ∧ ¬ (0 ≤ p ∧ p < nI n)) : pcode n f a p = Int32.ofInt (-1) := if_pos h
theorem pcode_2 {n : Nat} {f : Nat → Int32} {a p : Int32} (h : ¬ (¬ p = Int32.ofInt (-1) ∧ ¬ (0 ≤ p ∧ p < nI n))) (h2 : a < 0 ∨ ¬ a ≤ (Int8.ofInt 90).toInt32) : pcode n f a p = (Int8.ofInt (-2)).toInt32 := by
  unfold pcode
  rw [if_neg h, if_pos h2]
theorem pcode_3 {n : Nat} {f : Nat → Int32} {a p : Int32} (h : ¬ (¬ p = Int32.ofInt (-1) ∧ ¬ (0 ≤ p ∧ p < nI n))) (h2 : ¬ (a < 0 ∨ ¬ a ≤ (Int8.ofInt 90).toInt32)) (h3 : ¬ p = Int32.ofInt (-1) ∧ f p.toNatClampNeg ≤ a) : pcode n f a p = (Int8.ofInt (-3)).toInt32 := by
  unfold pcode
  rw [if_neg h, if_neg h2, if_pos h3]
theorem pcode_4 {n : Nat} {f : Nat → Int32} {a p : Int32} (h : ¬ (¬ p = Int32.ofInt (-1) ∧ ¬ (0 ≤ p ∧ p < nI n))) (h2 : ¬ (a < 0 ∨ ¬ a ≤ (Int8.ofInt 90).toInt32)) (h3 : ¬ (¬ p = Int32.ofInt (-1) ∧ f p.toNatClampNeg ≤ a)) (h4 : 8 ≤ n) : pcode n f a p = (Int8.ofInt (-4)).toInt32 := by
  unfold pcode
  rw [if_neg h, if_neg h2, if_neg h3, if_pos h4]
theorem pcode_0 {n : Nat} {f : Nat → Int32} {a p : Int32} (h : ¬ (¬ p = Int32.ofInt (-1) ∧ ¬ (0 ≤ p ∧ p < nI n))) (h2 : ¬ (a < 0 ∨ ¬ a ≤ (Int8.ofInt 90).toInt32)) (h3 : ¬ (¬ p = Int32.ofInt (-1) ∧ f p.toNatClampNeg ≤ a)) (h4 : ¬ 8 ≤ n) : pcode n f a p = 0 := by
  unfold pcode
  rw [if_neg h, if_neg h2, if_neg h3, if_neg h4]
theorem nI_ge8 {n : Nat} (hn : n ≤ 8) : (Int8.ofInt 8).toInt32 ≤ nI n ↔ 8 ≤ n := xnI_ge (m := 8) (by decide) (by omega)
/-- person of the class: refused, or at its writing -/
theorem cperson {h : XH} {fs fw : List Value} {n : Nat} {f : Nat → Int32} (hN : h.1 = 549) (h13 : h.2.2 13 = .inl (6, fs)) (hs0 : fs[0]? = some (.ref 14)) (h14 : h.2.2 14 = .inl (5, fw)) (hw0 : fw[0]? = some (.int (nI n))) (hw1 : fw[1]? = some (.ref 15)) (h15 : h.2.2 15 = .inr (.inl (0, 8, f))) (hn : n ≤ 8) (a p : Int32) {v : Option Value} {hend : XH}
    (hfail : ∀ x, ¬ x = 0 → pcode n f a p = x → v = some (.int x) ∧ hend = h) (hgood : pcode n f a p = 0 → XGo 8 xm_X6_person (69, [some (.ref 13), some (.int a), some (.int p)], [], h) v hend) : XGo 8 xm_X6_person (0, [some (.ref 13), some (.int a), some (.int p)], [], h) v hend := by
  have l13 : 13 < h.1 := by omega
  have l14 : 14 < h.1 := by omega
  have l15 : 15 < h.1 := by omega
  have g13 : ∀ {pc len w idx : Nat} {L : XL} {st : List Value}, xfind (xmT xm_X6_person) pc = some (pc, .getfield idx, len, 6, 0, w) → XGo 8 xm_X6_person (pc + 3, L, .ref 14 :: st, h) v hend → XGo 8 xm_X6_person (pc, L, .ref 13 :: st, h) v hend := fun hm k => XGo.getf hm (xfd_o h13 l13 (by decide) hs0) k
  have s54 : (¬ (¬ p = Int32.ofInt (-1) ∧ ¬ (0 ≤ p ∧ p < nI n))) → (¬ (a < 0 ∨ ¬ a ≤ (Int8.ofInt 90).toInt32)) → (¬ (¬ p = Int32.ofInt (-1) ∧ f p.toNatClampNeg ≤ a)) → XGo 8 xm_X6_person (54, [some (.ref 13), some (.int a), some (.int p)], [], h) v hend := fun q1 q2 q3 => by
    refine XGo.go 1 rfl ?_
    refine g13 rfl ?_
    refine XGo.getf rfl (xfd_o h14 l14 (by decide) hw0) ?_
    refine XGo.go 2 rfl ?_
    by_cases q4 : 8 ≤ n
    · refine XGo.ifn (fun z => Int32.not_le.mpr z ((nI_ge8 hn).mpr q4)) ?_
      obtain ⟨rfl, rfl⟩ := hfail _ (by decide) (pcode_4 q1 q2 q3 q4)
      refine XGo.go 1 rfl ?_
      exact XGo.iret _ rfl rfl .int rfl rfl
    · refine XGo.ifp (Int32.not_le.mp fun z => q4 ((nI_ge8 hn).mp z)) ?_
      exact hgood (pcode_0 q1 q2 q3 q4)
  have s31 : (¬ (¬ p = Int32.ofInt (-1) ∧ ¬ (0 ≤ p ∧ p < nI n))) → (¬ (a < 0 ∨ ¬ a ≤ (Int8.ofInt 90).toInt32)) → XGo 8 xm_X6_person (31, [some (.ref 13), some (.int a), some (.int p)], [], h) v hend := fun q1 q2 => by
    refine XGo.go 3 rfl ?_
    by_cases hp : p = Int32.ofInt (-1)
    · refine XGo.ifp hp ?_
      exact s54 q1 q2 (fun z => z.1 hp)
    · refine XGo.ifn hp ?_
      have hpb : 0 ≤ p ∧ p < nI n := by
        by_cases z : 0 ≤ p ∧ p < nI n
        · exact z
        · exact absurd ⟨hp, z⟩ q1
      have hpi : ¬ (p < 0 ∨ 8 ≤ p.toNatClampNeg) := fun z => z.elim (fun z => Int32.not_lt.mpr hpb.1 z) (fun z => by
        have e1 := Int32.lt_iff_toInt_lt.mp hpb.2
        rw [nI_toInt (by omega)] at e1
        have e2 : p.toNatClampNeg = p.toInt.toNat := rfl
        omega)
      refine XGo.go 2 rfl ?_
      refine g13 rfl ?_
      refine XGo.getf rfl (xfd_o h14 l14 (by decide) hw1) ?_
      refine XGo.go 1 rfl ?_
      refine XGo.call _ rfl xm_X6_at rfl rfl [.ref 15, .int p] [.int a] rfl rfl (fun z => absurd rfl z) (Nat.le_of_ble_eq_true rfl) (k_at 7 h 15 8 f p h15 l15 (by decide)) ?_
      rw [if_neg hpi]
      refine XGo.go 1 rfl ?_
      by_cases q3 : f p.toNatClampNeg ≤ a
      · refine XGo.ifn (Int32.not_lt.mpr q3) ?_
        obtain ⟨rfl, rfl⟩ := hfail _ (by decide) (pcode_3 q1 q2 ⟨hp, q3⟩)
        refine XGo.go 1 rfl ?_
        exact XGo.iret _ rfl rfl .int rfl rfl
      · refine XGo.ifp (Int32.not_le.mp q3) ?_
        exact s54 q1 q2 (fun z => q3 z.2)
  have s18 : (¬ (¬ p = Int32.ofInt (-1) ∧ ¬ (0 ≤ p ∧ p < nI n))) → XGo 8 xm_X6_person (18, [some (.ref 13), some (.int a), some (.int p)], [], h) v hend := fun q1 => by
    refine XGo.go 2 rfl ?_
    by_cases ha : a < 0
    · refine XGo.ifp ha ?_
      obtain ⟨rfl, rfl⟩ := hfail _ (by decide) (pcode_2 q1 (Or.inl ha))
      refine XGo.go 1 rfl ?_
      exact XGo.iret _ rfl rfl .int rfl rfl
    · refine XGo.ifn ha ?_
      refine XGo.go 3 rfl ?_
      by_cases hb : a ≤ (Int8.ofInt 90).toInt32
      · refine XGo.ifp hb ?_
        exact s31 q1 (fun z => z.elim ha (fun z => z hb))
      · refine XGo.ifn hb ?_
        obtain ⟨rfl, rfl⟩ := hfail _ (by decide) (pcode_2 q1 (Or.inr hb))
        refine XGo.go 1 rfl ?_
        exact XGo.iret _ rfl rfl .int rfl rfl
  refine XGo.go 3 rfl ?_
  by_cases hp : p = Int32.ofInt (-1)
  · refine XGo.ifp hp ?_
    exact s18 (fun z => z.1 hp)
  · refine XGo.ifn hp ?_
    refine XGo.go 1 rfl ?_
    refine g13 rfl ?_
    refine XGo.go 1 rfl ?_
    refine XGo.call _ rfl xm_X5_isPerson rfl rfl [.ref 14, .int p] [] rfl rfl (fun _ => ⟨14, fw, rfl, h14, by decide, l14⟩) (Nat.le_of_ble_eq_true rfl) (k_isPerson 7 h14 hw0 l14 (by decide) p) ?_
    by_cases hq : 0 ≤ p ∧ p < nI n
    · rw [if_pos hq]
      refine XGo.go 1 rfl ?_
      exact s18 (fun z => z.2 hq)
    · rw [if_neg hq]
      refine XGo.go 2 rfl ?_
      obtain ⟨rfl, rfl⟩ := hfail _ (by decide) (pcode_1 ⟨hp, hq⟩)
      exact XGo.iret _ rfl rfl .int rfl rfl
