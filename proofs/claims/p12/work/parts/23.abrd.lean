/-! reading the heap -/
theorem sgI_sub : ∀ {s : List (Nat × Int × Int)} {i j p lo hi : Int}, sgI s i j = some (lo, hi) → i ≤ p → p ≤ j → ∃ l2 h2, sgI s p p = some (l2, h2) ∧ lo ≤ l2 ∧ h2 ≤ hi
  | [], _, _, _, _, _, h, _, _ => by cases h
  | (u, l0, h0) :: t, i, j, p, lo, hi, h, h1, h2 => by
    unfold sgI at h ⊢
    split at h
    · rename_i hu
      rw [if_pos (by omega)]
      exact sgI_sub h h1 h2
    · rename_i hu
      split at h
      · rename_i hj
        cases h
        rw [if_neg (by omega), if_pos (by omega)]
        exact ⟨_, _, rfl, Int.le_refl _, Int.le_refl _⟩
      · rename_i hj
        split at h
        · rename_i l2 h2' hq
          cases h
          by_cases hp : (u : Int) ≤ p
          · rw [if_pos hp]
            obtain ⟨l3, h3, e, f1, f2⟩ := sgI_sub hq h1 h2
            exact ⟨l3, h3, e, by omega, by omega⟩
          · rw [if_neg hp, if_pos (by omega)]
            exact ⟨_, _, rfl, by omega, by omega⟩
        · cases h
def azgf (W : AW) (ci b q : Nat) (A : List (Option AV)) (S : List AV) (m : AM) : Option (List AS) := match S with
  | a :: r => if a.1 = 2 ∧ 13 ≤ a.2.2.2.1 ∧ (W.2.1 a.2.2.2.1).1 = 0 ∧ (W.2.1 a.2.2.2.1).2.1 = ci then (match (W.2.1 a.2.2.2.1).2.2.2.1[b]? with
    | some s => some [(q, A, aread W m a.2.2.2.1 b s :: r, m)]
    | none => none) else none
  | _ => none
def azlen (W : AW) (q : Nat) (A : List (Option AV)) (S : List AV) (m : AM) : Option (List AS) := match S with
  | a :: r => if a.1 = 2 ∧ ((W.2.1 a.2.2.2.1).1 = 1 ∧ ((W.2.1 a.2.2.2.1).2.1 < 2 ∨ (W.2.1 a.2.2.2.1).2.1 = 4 ∧ a.2.2.2.1 < 13) ∨ (W.2.1 a.2.2.2.1).1 = 2 ∧ 13 ≤ a.2.2.2.1 ∧ ((W.2.1 a.2.2.2.1).2.1 = 2 ∨ (W.2.1 a.2.2.2.1).2.1 = 3)) ∧ (W.2.1 a.2.2.2.1).2.2.1 < 2147483648 then some [(q, A, avI (W.2.1 a.2.2.2.1).2.2.1 (W.2.1 a.2.2.2.1).2.2.1 :: r, m)] else none
  | _ => none
/-- an element of a row of ints (t 0), of booleans (1), of a constant's bytes (4) -/
def azel (W : AW) (t q : Nat) (A : List (Option AV)) (S : List AV) (m : AM) : Option (List AS) := match S with
  | i :: a :: r => if i.1 = 0 ∧ a.1 = 2 ∧ (W.2.1 a.2.2.2.1).1 = 1 ∧ (W.2.1 a.2.2.2.1).2.1 = t ∧ 0 ≤ i.2.1 ∧ i.2.2.1 < ((W.2.1 a.2.2.2.1).2.2.1 : Int) then (match sgI (W.2.1 a.2.2.2.1).2.2.2.2 i.2.1 i.2.2.1 with
    | some (lo, hi) => if i.2.1 = i.2.2.1 then some [(q, A, aread W m a.2.2.2.1 i.2.1.toNat (avI lo hi) :: r, m)] else some [(q, A, avI lo hi :: r, m)]
    | none => none) else none
  | _ => none
def azaa (W : AW) (q : Nat) (A : List (Option AV)) (S : List AV) (m : AM) : Option (List AS) := match S with
  | i :: a :: r => if i.1 = 0 ∧ a.1 = 2 ∧ 13 ≤ a.2.2.2.1 ∧ (W.2.1 a.2.2.2.1).1 = 2 ∧ ((W.2.1 a.2.2.2.1).2.1 = 2 ∨ (W.2.1 a.2.2.2.1).2.1 = 3) ∧ 0 ≤ i.2.1 ∧ i.2.2.1 < ((W.2.1 a.2.2.2.1).2.2.1 : Int) then (match (W.2.1 a.2.2.2.1).2.2.2.1[0]? with
    | some s => if s.1 = 2 then some [(q, A, avR s.2.2.2.1 :: r, m)] else none
    | none => none) else none
  | _ => none
section AR
variable {W : AW} {E : Nat → Int} {L : XL} {h : XH} {A : List (Option AV)} {S : List AV} {m : AM} {st : List Value} {l : List AS} {q t : Nat}
theorem ga_2 {a : AV} {v : Value} (h0 : a.1 = 2) (hv : ga W a v) : ∃ k : Nat, v = .ref k ∧ W.1 k = a.2.2.2.1 ∧ k < W.2.2.2.1 := by
  unfold ga at hv
  rw [h0] at hv
  exact hv
theorem own13 (hw : AWf W) {k : Nat} (h13 : 13 ≤ W.1 k) : 13 ≤ k := by
  rcases Nat.lt_or_ge k 13 with h | h
  · rw [hw.2.1 k h] at h13; exact h13
  · exact h
theorem shp_o {s : ASh} {e : XE} (h0 : s.1 = 0) (hs : shp s e) : ∃ o : Nat × List Value, e = .inl o ∧ o.1 = s.2.1 ∧ o.2.length = s.2.2.2.1.length := by
  obtain ⟨t, c, n, sl, sg⟩ := s
  dsimp only at h0
  subst h0
  match e, hs with
  | .inl o, hs => exact ⟨o, rfl, hs⟩
theorem shp_i {s : ASh} {e : XE} (h0 : s.1 = 1) (hs : shp s e) : ∃ o : Nat × Nat × (Nat → Int32), e = .inr (.inl o) ∧ o.1 = s.2.1 ∧ o.2.1 = s.2.2.1 := by
  obtain ⟨t, c, n, sl, sg⟩ := s
  dsimp only at h0
  subst h0
  match e, hs with
  | .inr (.inl o), hs => exact ⟨o, rfl, hs⟩
theorem shp_r {s : ASh} {e : XE} (h0 : s.1 = 2) (hs : shp s e) : ∃ o : Nat × Nat × (Nat → Option Nat), e = .inr (.inr o) ∧ o.1 = s.2.1 ∧ o.2.1 = s.2.2.1 := by
  obtain ⟨t, c, n, sl, sg⟩ := s
  dsimp only at h0
  subst h0
  match e, hs with
  | .inr (.inr o), hs => exact ⟨o, rfl, hs⟩
theorem azgf_ok {ci b : Nat} (hw : AWf W) (hg : gss W E A S m L st h) (ha : azgf W ci b q A S m = some l) : ∃ k r v, st = .ref k :: r ∧ xfd h k ci b = some v ∧ aout W E h l (q, L, v :: r) := by
  unfold azgf at ha
  split at ha
  · rename_i a S2
    split at ha
    · rename_i hc
      obtain ⟨c1, c2, c3, c4⟩ := hc
      split at ha
      · rename_i s hs
        cases ha
        obtain ⟨v, r, rfl, hv, hg2⟩ := hg.pop
        obtain ⟨k, rfl, hk, hkn⟩ := ga_2 c1 hv.1
        obtain ⟨n1, n2, n3⟩ := hg.2.2.2
        obtain ⟨s1, s2⟩ := n3 k hkn
        rw [hk] at s1 s2
        obtain ⟨o, ho, o1, o2⟩ := shp_o c3 s1
        obtain ⟨v, hv1, hv2⟩ := s2 b s (by unfold shA; rw [c3]; exact hs)
        have hrd : o.2[b]? = some v := by
          have e := hv1
          unfold rd at e
          rw [ho] at e
          exact e
        refine ⟨k, r, v, rfl, ?_, aout.one (hg2.push (aread_ok hw hg.2.2.1 hkn hk hv1 hv2))⟩
        unfold xfd
        rw [ho]
        exact (if_pos ⟨by omega, own13 hw (by omega), o1.trans c4⟩).trans hrd
      · cases ha
    · cases ha
  · cases ha
theorem azlen_ok (hw : AWf W) (hg : gss W E A S m L st h) (ha : azlen W q A S m = some l) : ∃ k r n, st = .ref k :: r ∧ xlen h k = some n ∧ aout W E h l (q, L, .int (Int32.ofNat n) :: r) := by
  unfold azlen at ha
  split at ha
  · rename_i a S2
    split at ha
    · rename_i hc
      obtain ⟨c1, c2, c3⟩ := hc
      cases ha
      obtain ⟨v, r, rfl, hv, hg2⟩ := hg.pop
      obtain ⟨k, rfl, hk, hkn⟩ := ga_2 c1 hv.1
      obtain ⟨n1, n2, n3⟩ := hg.2.2.2
      have s1 := (n3 k hkn).1
      rw [hk] at s1
      have e9 : (Int32.ofNat (W.2.1 a.2.2.2.1).2.2.1).toInt = ((W.2.1 a.2.2.2.1).2.2.1 : Int) := nI_toInt c3
      refine ⟨k, r, (W.2.1 a.2.2.2.1).2.2.1, rfl, ?_, aout.one (hg2.push (gv_I (by omega) (by omega)))⟩
      rcases c2 with ⟨d1, d2⟩ | ⟨d1, d2, d3⟩
      · obtain ⟨o, ho, o1, o2⟩ := shp_i d1 s1
        unfold xlen
        rw [if_pos (by omega), ho]
        dsimp only
        rw [if_pos (by rw [o1]; exact d2.imp id (fun z => ⟨z.1, by
          rcases Nat.lt_or_ge k 13 with g | g
          · exact g
          · have := hw.2.2 k g
            omega⟩)), o2]
      · obtain ⟨o, ho, o1, o2⟩ := shp_r d1 s1
        unfold xlen
        rw [if_pos (by omega), ho]
        dsimp only
        rw [if_pos ⟨own13 hw (by omega), by rw [o1]; exact d3⟩, o2]
    · cases ha
  · cases ha
end AR
