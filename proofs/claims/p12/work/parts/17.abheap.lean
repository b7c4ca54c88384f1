/-! slots read and written -/
/-- regions as they must be: a region said to be one place is; the first thirteen places are their own -/
def AWf (W : AW) : Prop := (∀ r, W.2.2.1 r = true → ∀ k j, k < W.2.2.2.1 → j < W.2.2.2.1 → W.1 k = r → W.1 j = r → k = j) ∧ (∀ k, k < 13 → W.1 k = k) ∧ ∀ k, 13 ≤ k → 13 ≤ W.1 k
theorem amem_in {m : AM} {r b : Nat} {lo hi : Int} (h : amem m r b = some (lo, hi)) : (r, b, lo, hi) ∈ m := by
  unfold amem at h
  split at h
  · rename_i q hq
    cases h
    have h1 := List.mem_of_find?_eq_some hq
    have h2 := List.find?_some hq
    simp only [Bool.and_eq_true, beq_iff_eq] at h2
    obtain ⟨rfl, rfl⟩ := h2
    exact h1
  · cases h
theorem akey_div (r b : Nat) (hb : b < 1000) : akey r b / 1000 - 1 = r ∧ akey r b % 1000 = b ∧ 1000 ≤ akey r b := by
  unfold akey
  omega
section AH
variable {W : AW} {E : Nat → Int} {L : XL} {h : XH}
theorem aread_ok {m : AM} {r k b : Nat} {s : AV} {v : Value} (hw : AWf W) (hm : gmem W h m) (hk : k < W.2.2.2.1) (hr : W.1 k = r) (hv : rd h k b = some v) (hs : ga W s v) : gv W E L h (aread W m r b s) v := by
  unfold aread
  split
  · rename_i hc
    obtain ⟨h0, h1, hb⟩ := hc
    obtain ⟨x, rfl, b1, b2⟩ := ga_int h0 hs
    obtain ⟨e1, e2, e3⟩ := akey_div r b hb
    have key : ∀ j, j < W.2.2.2.1 → W.1 j = akey r b / 1000 - 1 → rd h j (akey r b % 1000) = some (.int x) := fun j hj hjr => by
      rw [e1] at hjr
      rw [e2, hw.1 r h1 j k hj hk hjr hr]
      exact hv
    split
    · rename_i lo hi hq
      obtain ⟨y, hy, c1, c2⟩ := hm _ (amem_in hq) k hk hr
      dsimp only at hy c1 c2
      rw [hv] at hy
      cases hy
      refine ⟨ga_of rfl ⟨?_, ?_⟩, fun _ h => absurd (show 0 < 0 from h) (by decide), fun _ h => ?_, fun _ => key⟩
      · show max lo s.2.1 ≤ _
        omega
      · show _ ≤ min hi s.2.2.1
        omega
      · have : akey r b < 1000 := h
        omega
    · refine ⟨ga_of rfl ⟨b1, b2⟩, fun _ h => absurd (show 0 < 0 from h) (by decide), fun _ h => ?_, fun _ => key⟩
      have : akey r b < 1000 := h
      omega
  · unfold aslot
    split
    · rename_i h0
      obtain ⟨x, rfl, b1, b2⟩ := ga_int h0 hs
      exact ⟨ga_of rfl ⟨b1, b2⟩, fun _ h => absurd (show 0 < 0 from h) (by decide), fun h => absurd (show 0 < 0 from h) (by decide), fun h => absurd (show 1000 ≤ 0 from h) (by decide)⟩
    · rename_i h0
      refine ⟨?_, fun h => absurd (show s.1 = 0 from h) h0, fun h => absurd (show 0 < 0 from h) (by decide), fun h => absurd (show 1000 ≤ 0 from h) (by decide)⟩
      unfold ga at hs ⊢
      obtain ⟨t, lo, hi, sy, of, sr⟩ := s
      dsimp only at hs h0 ⊢
      match t with
      | 0 => exact absurd rfl h0
      | 1 => exact hs
      | 2 => exact hs
      | 3 => exact hs
      | 4 => exact hs
      | t + 5 => exact hs
/-- one slot written, all else as it was -/
def AWrote (h h1 : XH) (k b : Nat) (v : Value) : Prop := h1.1 = h.1 ∧ h1.2.1 = h.2.1 ∧ rd h1 k b = some v ∧ (∀ j i, ¬ (j = k ∧ i = b) → rd h1 j i = rd h j i) ∧ ∀ s j, shp s (h.2.2 j) → shp s (h1.2.2 j)
theorem wrote_field {k b ci : Nat} {fs : List Value} {v : Value} (hk : h.2.2 k = .inl (ci, fs)) (hb : b < fs.length) : AWrote h (xup h k (.inl (ci, fs.set b v))) k b v := by
  have e1 : (xup h k (.inl (ci, fs.set b v))).2.2 k = .inl (ci, fs.set b v) := if_pos rfl
  have e2 : ∀ j, ¬ j = k → (xup h k (.inl (ci, fs.set b v))).2.2 j = h.2.2 j := fun j hj => if_neg hj
  refine ⟨rfl, rfl, ?_, fun j i hji => ?_, fun s j hs => ?_⟩
  · unfold rd
    rw [e1]
    exact List.getElem?_set_self hb
  · unfold rd
    by_cases hj : j = k
    · subst hj
      rw [e1, hk]
      exact List.getElem?_set_ne (fun e => hji ⟨rfl, e.symm⟩)
    · rw [e2 j hj]
  · by_cases hj : j = k
    · subst hj
      rw [hk] at hs
      rw [e1]
      unfold shp at hs ⊢
      obtain ⟨t, c, n, sl, sg⟩ := s
      match t with
      | 0 => exact ⟨hs.1, by simpa using hs.2⟩
      | 1 => exact hs
      | 2 => exact hs
      | 3 => trivial
      | t + 4 => exact hs
    · rw [e2 j hj]
      exact hs
theorem wrote_int {k b t n : Nat} {f : Nat → Int32} {x : Int32} (hk : h.2.2 k = .inr (.inl (t, n, f))) (hb : b < n) : AWrote h (xup h k (.inr (.inl (t, n, upd f b x)))) k b (.int x) := by
  have e1 : (xup h k (.inr (.inl (t, n, upd f b x)))).2.2 k = .inr (.inl (t, n, upd f b x)) := if_pos rfl
  have e2 : ∀ j, ¬ j = k → (xup h k (.inr (.inl (t, n, upd f b x)))).2.2 j = h.2.2 j := fun j hj => if_neg hj
  refine ⟨rfl, rfl, ?_, fun j i hji => ?_, fun s j hs => ?_⟩
  · unfold rd
    rw [e1]
    show (if b < n then some (Value.int (upd f b x b)) else none) = _
    rw [if_pos hb]
    simp [upd]
  · unfold rd
    by_cases hj : j = k
    · subst hj
      rw [e1, hk]
      show (if i < n then some (Value.int (upd f b x i)) else none) = if i < n then some (Value.int (f i)) else none
      have hi : ¬ i = b := fun e => hji ⟨rfl, e⟩
      simp [upd, hi]
    · rw [e2 j hj]
  · by_cases hj : j = k
    · subst hj
      rw [hk] at hs
      rw [e1]
      unfold shp at hs ⊢
      obtain ⟨q, c, n2, sl, sg⟩ := s
      match q with
      | 0 => exact hs
      | 1 => exact hs
      | 2 => exact hs
      | 3 => trivial
      | q + 4 => exact hs
    · rw [e2 j hj]
      exact hs
end AH
