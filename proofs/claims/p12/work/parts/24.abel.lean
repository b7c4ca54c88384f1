/-! elements -/
section AE
variable {W : AW} {E : Nat → Int} {L : XL} {h : XH} {A : List (Option AV)} {S : List AV} {m : AM} {st : List Value} {l : List AS} {q t : Nat}
theorem shA_1 {s : ASh} {b : Nat} {lo hi : Int} (h0 : s.1 = 1) (hb : b < s.2.2.1) (hs : sgI s.2.2.2.2 b b = some (lo, hi)) : shA s b = some (avI lo hi) := by
  obtain ⟨t, c, n, sl, sg⟩ := s
  dsimp only at h0 hb hs
  subst h0
  show (if b < n then (match sgI sg b b with
    | some (lo, hi) => some (avI lo hi)
    | none => none) else none) = _
  rw [if_pos hb, hs]
theorem shA_2 {s : ASh} {b : Nat} {a : AV} (h0 : s.1 = 2) (hb : b < s.2.2.1) (hs : s.2.2.2.1[0]? = some a) : shA s b = some a := by
  obtain ⟨t, c, n, sl, sg⟩ := s
  dsimp only at h0 hb hs
  subst h0
  exact (if_pos hb).trans hs
theorem i32_cl {x : Int32} (h : 0 ≤ x.toInt) : ((x.toNatClampNeg : Nat) : Int) = x.toInt := by
  show ((x.toInt.toNat : Nat) : Int) = _
  omega
theorem i32_nn {x : Int32} (h : 0 ≤ x.toInt) : ¬ x < 0 := fun e => by
  have := Int32.lt_iff_toInt_lt.mp e
  have z : (0 : Int32).toInt = 0 := by decide
  omega
/-- the element, its place, its bounds -/
theorem azel_at (hw : AWf W) (hg : gss W E A S m L st h) (ha : azel W t q A S m = some l) : ∃ (i : Int32) (k : Nat) (r : List Value) (o : Nat × Nat × (Nat → Int32)), st = .int i :: .ref k :: r ∧ k < W.2.2.2.1 ∧ (W.2.1 (W.1 k)).1 = 1 ∧ h.2.2 k = .inr (.inl o) ∧ o.1 = t ∧ ¬ (i < 0 ∨ o.2.1 ≤ i.toNatClampNeg) ∧ aout W E h l (q, L, .int (o.2.2 i.toNatClampNeg) :: r) := by
  unfold azel at ha
  split at ha
  · rename_i ai a S2
    split at ha
    · rename_i hc
      obtain ⟨c1, c2, c3, c4, c5, c6⟩ := hc
      split at ha
      · rename_i lo hi hs
        obtain ⟨v, r1, rfl, hv, hg1⟩ := hg.pop
        obtain ⟨u, r, rfl, hu, hg2⟩ := hg1.pop
        obtain ⟨i, rfl, i1, i2⟩ := ga_int c1 hv.1
        obtain ⟨k, rfl, hk, hkn⟩ := ga_2 c2 hu.1
        obtain ⟨n1, n2, n3⟩ := hg.2.2.2
        obtain ⟨s1, s2⟩ := n3 k hkn
        rw [hk] at s1 s2
        obtain ⟨o, ho, o1, o2⟩ := shp_i c3 s1
        have ec := i32_cl (x := i) (by omega)
        have hj : i.toNatClampNeg < (W.2.1 a.2.2.2.1).2.2.1 := by omega
        obtain ⟨l2, h2, e2, f1, f2⟩ := sgI_sub (p := ((i.toNatClampNeg : Nat) : Int)) hs (by omega) (by omega)
        obtain ⟨v, hv1, hv2⟩ := s2 i.toNatClampNeg (avI l2 h2) (shA_1 c3 hj e2)
        have hrd : rd h k i.toNatClampNeg = some (.int (o.2.2 i.toNatClampNeg)) := by
          unfold rd
          rw [ho]
          exact if_pos (by rw [o2]; exact hj)
        rw [hrd] at hv1
        cases hv1
        obtain ⟨z, hz, b1, b2⟩ := ga_int rfl hv2
        cases hz
        have b1 : l2 ≤ (o.2.2 i.toNatClampNeg).toInt := b1
        have b2 : (o.2.2 i.toNatClampNeg).toInt ≤ h2 := b2
        refine ⟨i, k, r, o, rfl, hkn, by rw [hk]; exact c3, ho, o1.trans c4, fun hx => hx.elim (i32_nn (by omega)) (fun hx => by omega), ?_⟩
        split at ha
        · rename_i hcst
          cases ha
          have e3 : ai.2.1.toNat = i.toNatClampNeg := by omega
          refine aout.one (hg2.push (aread_ok hw hg.2.2.1 hkn hk (by rw [e3]; exact hrd) (ga_of rfl ⟨?_, ?_⟩)))
          · show lo ≤ _
            omega
          · show _ ≤ hi
            omega
        · cases ha
          exact aout.one (hg2.push (gv_I (by omega) (by omega)))
      · cases ha
    · cases ha
  · cases ha
theorem azaa_ok (hw : AWf W) (hg : gss W E A S m L st h) (ha : azaa W q A S m = some l) : ∃ (i : Int32) (k : Nat) (r : List Value) (v : Option Nat), st = .int i :: .ref k :: r ∧ xra h k i = some v ∧ aout W E h l (q, L, va_rf v :: r) := by
  unfold azaa at ha
  split at ha
  · rename_i ai a S2
    split at ha
    · rename_i hc
      obtain ⟨c1, c2, c3, c4, c5, c6, c7⟩ := hc
      split at ha
      · rename_i s hs
        split at ha
        · rename_i hs2
          cases ha
          obtain ⟨v, r1, rfl, hv, hg1⟩ := hg.pop
          obtain ⟨u, r, rfl, hu, hg2⟩ := hg1.pop
          obtain ⟨i, rfl, i1, i2⟩ := ga_int c1 hv.1
          obtain ⟨k, rfl, hk, hkn⟩ := ga_2 c2 hu.1
          obtain ⟨n1, n2, n3⟩ := hg.2.2.2
          obtain ⟨s1, s2⟩ := n3 k hkn
          rw [hk] at s1 s2
          obtain ⟨o, ho, o1, o2⟩ := shp_r c4 s1
          have ec := i32_cl (x := i) (by omega)
          have hj : i.toNatClampNeg < (W.2.1 a.2.2.2.1).2.2.1 := by omega
          obtain ⟨v, hv1, hv2⟩ := s2 i.toNatClampNeg s (shA_2 c4 hj hs)
          have hrd : rd h k i.toNatClampNeg = some (va_rf (o.2.2 i.toNatClampNeg)) := by
            unfold rd
            rw [ho]
            exact if_pos (by rw [o2]; exact hj)
          rw [hrd] at hv1
          have hv3 : va_rf (o.2.2 i.toNatClampNeg) = v := Option.some.inj hv1
          have hn : ¬ (i < 0 ∨ o.2.1 ≤ i.toNatClampNeg) := fun hx => hx.elim (i32_nn (by omega)) (fun hx => by omega)
          have hvv : ga W (avR s.2.2.2.1) (va_rf (o.2.2 i.toNatClampNeg)) := by
            rw [hv3]
            have e := ga_2 hs2 hv2
            exact e
          refine ⟨i, k, r, o.2.2 i.toNatClampNeg, rfl, ?_, aout.one (hg2.push (gv_plain hvv (fun h => by cases h) rfl))⟩
          unfold xra
          rw [ho]
          exact if_pos ⟨by omega, own13 hw (by omega), by rw [o1]; exact c5, hn⟩
        · cases ha
      · cases ha
    · cases ha
  · cases ha
end AE
