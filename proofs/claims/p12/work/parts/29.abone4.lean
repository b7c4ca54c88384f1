/-! String constants, statics, booleans and bytes, longs stored -/
def azlst (q k : Nat) (A : List (Option AV)) (S : List AV) (m : AM) : Option (List AS) := match S with
  | a :: r => if a.1 = 1 ∧ k + 1 < A.length ∧ afree A k = true then some [(q, (((A.map (Option.map (aunS (k + 1)))).set k (some avL)).map (Option.map (aunS (k + 2)))).set (k + 1) none, (r.map (aunS (k + 1))).map (aunS (k + 2)), m)] else none
  | _ => none
def azsf (b q : Nat) (A : List (Option AV)) (S : List AV) (m : AM) : Option (List AS) := match S with
  | a :: r => if a.1 = 2 ∧ 2 ≤ a.2.2.2.1 ∧ a.2.2.2.1 < 7 then some [(q, A, (if b = 0 then avR (a.2.2.2.1 + 5) else avI 0 0) :: r, m)] else none
  | _ => none
section AN
variable {W : AW} {E : Nat → Int} {L : XL} {h : XH} {A : List (Option AV)} {S : List AV} {m : AM} {st : List Value} {l : List AS} {a b pc q k : Nat}
theorem azlst_ok (hg : gss W E A S m L st h) (ha : azlst q k A S m = some l) : ∃ o, xstl q L st k = some o ∧ aout W E h l o := by
  unfold azlst at ha
  split at ha
  · rename_i a S2
    split at ha
    · rename_i hc
      cases ha
      obtain ⟨v, r, rfl, hv, hg2⟩ := hg.pop
      obtain ⟨x, rfl⟩ := ga_1 hc.1 hv.1
      have k1 := hg2.setL (n := k) (d := some (.long x)) (o := some avL) ⟨_, rfl, gv_L x⟩
      have k2 := k1.setL (n := k + 1) (d := none) (o := none) (fun v hv => by cases hv)
      refine ⟨(q, (L.set k (some (.long x))).set (k + 1) none, r), ?_, aout.one k2⟩
      simp only [xstl]
      rw [if_pos ⟨by rw [← hg.1.1]; exact hc.2.1, afree_ok hg.1 hc.2.2⟩]
    · cases ha
  · cases ha
theorem own_lt (hw : AWf W) {j r : Nat} (h : W.1 j = r) (hr : r < 13) : j = r := by
  rcases Nat.lt_or_ge j 13 with g | g
  · rw [hw.2.1 j g] at h; exact h
  · have := hw.2.2 j g
    omega
theorem azsf_ok {idx : Nat} (hw : AWf W) (hN : 13 ≤ W.2.2.2.1) (hg : gss W E A S m L st h) (ha : azsf b (pc + 3) A S m = some l) : ∃ o, xst (.getfield idx) 98 b pc L st h = some o ∧ aout W E h l o := by
  unfold azsf at ha
  split at ha
  · rename_i a S2
    split at ha
    · rename_i hc
      obtain ⟨c1, c2, c3⟩ := hc
      cases ha
      obtain ⟨v, r, rfl, hv, hg2⟩ := hg.pop
      obtain ⟨j, rfl, hj, hjn⟩ := ga_2 c1 hv.1
      have ej := own_lt hw hj (by omega)
      by_cases hb : b = 0
      · refine ⟨(pc + 3, L, .ref (j + 5) :: r), ?_, aout.one (hg2.push ?_)⟩
        · simp only [xst]
          rw [if_pos trivial]
          unfold xsf
          rw [if_pos (show 2 ≤ j ∧ j < 7 by omega), if_pos hb]
        · rw [if_pos hb]
          have hga : ∃ k : Nat, Value.ref (j + 5) = .ref k ∧ W.1 k = a.2.2.2.1 + 5 ∧ k < W.2.2.2.1 := ⟨j + 5, rfl, by rw [hw.2.1 (j + 5) (by omega), ej], by omega⟩
          exact gv_plain hga (fun h => by cases h) rfl
      · refine ⟨(pc + 3, L, .int 0 :: r), ?_, aout.one (hg2.push ?_)⟩
        · simp only [xst]
          rw [if_pos trivial]
          unfold xsf
          rw [if_pos (show 2 ≤ j ∧ j < 7 by omega), if_neg hb]
        · rw [if_neg hb]
          exact gv_I (by decide) (by decide)
    · cases ha
  · cases ha
/-- a boolean or a byte of a constant -/
theorem azbal_ok {t : Nat} (hw : AWf W) (hg : gss W E A S m L st h) (ht : t = 1 ∨ t = 4) (h4 : ∀ r, (W.2.1 r).1 = 1 → (W.2.1 r).2.1 = 4 → r < 13) (ha : azel W t (pc + 1) A S m = some l) : ∃ o, xst .baload a b pc L st h = some o ∧ aout W E h l o := by
  obtain ⟨i, j, r, o, rfl, hj, hc0, e, e2, hn, ho⟩ := azel_at hw hg ha
  have hjh : j < h.1 := by have := hg.2.2.2.1; omega
  rcases ht with rfl | rfl
  · have e9 : xia h 1 j i = some (o.2.2 i.toNatClampNeg) := by
      unfold xia
      rw [e]
      exact if_pos ⟨hjh, e2, hn⟩
    exact ⟨_, by simp only [xst, e9], ho⟩
  · have e8 : xia h 1 j i = none := by
      unfold xia
      rw [e]
      exact if_neg (fun z => by have := z.2.1; omega)
    have hj13 : j < 13 := by
      rcases Nat.lt_or_ge j 13 with g | g
      · exact g
      · obtain ⟨n1, n2, n3⟩ := hg.2.2.2
        have s1 := (n3 j hj).1
        rw [e] at s1
        have g2 := hw.2.2 j g
        have g3 : (W.2.1 (W.1 j)).1 = 1 ∧ (W.2.1 (W.1 j)).2.1 = 4 := by
          unfold shp at s1
          split at s1
          · rename_i z; cases z
          · rename_i y z
            cases z
            exact ⟨y, s1.1.symm.trans e2⟩
          · rename_i z; cases z
          · exfalso
            have := hc0
            omega
          · exact s1.elim
        have := h4 _ g3.1 g3.2
        omega
    have e9 : xib h j i = some (o.2.2 i.toNatClampNeg) := by
      unfold xib
      rw [e]
      exact if_pos ⟨hjh, hj13, e2, hn⟩
    exact ⟨_, by simp only [xst, e8, e9], ho⟩
end AN
