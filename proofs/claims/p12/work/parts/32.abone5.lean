/-! constants of text, statics, the lesser of two -/
def azldc (a q : Nat) (A : List (Option AV)) (S : List AV) (m : AM) : Option (List AS) := if 2 ≤ a ∧ a < 7 then some [(q, A, avR a :: S, m)] else none
def azgst (a q : Nat) (A : List (Option AV)) (S : List AV) (m : AM) : Option (List AS) := some [(q, A, (if a = 0 then avR 0 else if a = 1 then avI 1 1 else (3, 0, 0, 12, 0, 0)) :: S, m)]
def azmin (q : Nat) (A : List (Option AV)) (S : List AV) (m : AM) : Option (List AS) := match S with
  | y :: x :: r => if x.1 = 0 ∧ y.1 = 0 ∧ r.length ≤ 4 then some [(q, A, avI (min x.2.1 y.2.1) (min x.2.2.1 y.2.2.1) :: r, m)] else none
  | _ => none
section AN
variable {W : AW} {E : Nat → Int} {L : XL} {h : XH} {A : List (Option AV)} {S : List AV} {m : AM} {st : List Value} {l : List AS} {a b pc q k : Nat}
theorem gv_ext {k : Nat} (hw : AWf W) (hN : 13 ≤ W.2.2.2.1) (hk : k < 13) : gv W E L h (avR k) (.ref k) := by
  have hga : ∃ j : Nat, Value.ref k = .ref j ∧ W.1 j = k ∧ j < W.2.2.2.1 := ⟨k, rfl, hw.2.1 k hk, by omega⟩
  exact gv_plain hga (fun h => by cases h) rfl
theorem azldc_ok {idx : Nat} (hw : AWf W) (hN : 13 ≤ W.2.2.2.1) (hg : gss W E A S m L st h) (ha : azldc a (pc + 2) A S m = some l) : ∃ o, xst (.ldc idx) a b pc L st h = some o ∧ aout W E h l o := by
  unfold azldc at ha
  split at ha
  · rename_i hc
    cases ha
    exact ⟨_, if_pos hc, aout.one (hg.push (gv_ext hw hN (by omega)))⟩
  · cases ha
theorem azgst_ok {idx : Nat} (hw : AWf W) (hN : 13 ≤ W.2.2.2.1) (hg : gss W E A S m L st h) (ha : azgst a (pc + 3) A S m = some l) : ∃ o, xst (.getstatic idx) a b pc L st h = some o ∧ aout W E h l o := by
  cases ha
  refine ⟨_, rfl, aout.one (hg.push ?_)⟩
  unfold xsv
  by_cases h0 : a = 0
  · rw [if_pos h0, if_pos h0]; exact gv_ext hw hN (by omega)
  · rw [if_neg h0, if_neg h0]
    by_cases h1 : a = 1
    · rw [if_pos h1, if_pos h1]; exact gv_I (by decide) (by decide)
    · rw [if_neg h1, if_neg h1]
      have hga : ga W (3, 0, 0, 12, 0, 0) (if xnl h = true then .ref 12 else .null) := by
        split
        · have q : ∃ j : Nat, Value.ref 12 = .ref j ∧ W.1 j = 12 ∧ j < W.2.2.2.1 := ⟨12, rfl, hw.2.1 12 (by omega), by omega⟩
          exact Or.inr q
        · exact Or.inl rfl
      exact gv_plain hga (fun h => by cases h) rfl
theorem gst_cat : ∀ {s : List AV} {t : List Value}, gst W E L h s t → (t.map fun v => v.category).sum ≤ 2 * s.length
  | [], [], _ => Nat.le_refl _
  | [], _ :: _, hs => hs.elim
  | _ :: _, [], hs => hs.elim
  | a :: s, v :: t, hs => by
    have k := gst_cat hs.2
    have c : v.category ≤ 2 := by cases v <;> simp [Value.category]
    simp only [List.map_cons, List.sum_cons, List.length_cons]
    omega
theorem azmin_ok {idx : Nat} (hg : gss W E A S m L st h) (ha : azmin q A S m = some l) : ∃ r, xhp (.invokestatic idx) 996 b st h = some (3, r, h) ∧ aout W E h l (q, L, r) := by
  unfold azmin at ha
  split at ha
  · split at ha
    · rename_i hc
      cases ha
      obtain ⟨v, r, rfl, hv, hg1⟩ := hg.pop
      obtain ⟨u, r2, rfl, hu, hg2⟩ := hg1.pop
      obtain ⟨y, rfl, iy⟩ := ga_int hc.2.1 hv.1
      obtain ⟨x, rfl, ix⟩ := ga_int hc.1 hu.1
      have k := gst_cat hg2.2.1
      have h1 := ix.1
      have h2 := ix.2
      have h3 := iy.1
      have h4 := iy.2
      refine ⟨.int (if y < x then y else x) :: r2, ?_, aout.one (hg2.push ?_)⟩
      · simp only [xhp]
        rw [if_neg (by decide), if_pos trivial, if_pos (by omega)]
      · split
        · rename_i hlt
          have := Int32.lt_iff_toInt_lt.mp hlt
          exact gv_I (by omega) (by omega)
        · rename_i hlt
          have := Int32.le_iff_toInt_le.mp (Int32.not_lt.mp hlt)
          exact gv_I (by omega) (by omega)
    · cases ha
  · cases ha
end AN
