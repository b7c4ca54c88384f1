/-! locals and the stack -/
def amark (a : AV) (i : Nat) : AV := (a.1, a.2.1, a.2.2.1, a.2.2.2.1, a.2.2.2.2.1, i + 1)
def aisr (t : Nat) : Bool := t == 2 || t == 3 || t == 4
def afree (A : List (Option AV)) : Nat → Bool
  | 0 => true
  | j + 1 => match A[j]? with
    | some (some a) => a.1 != 1
    | some none => true
    | none => false
def gss (W : AW) (E : Nat → Int) (A : List (Option AV)) (S : List AV) (m : AM) (L : XL) (st : List Value) (h : XH) : Prop := gls W E L h A ∧ gst W E L h S st ∧ gmem W h m ∧ AInv W h
/-- a state of l stands where o is, and holds -/
def aout (W : AW) (E : Nat → Int) (h : XH) (l : List AS) (o : XO) : Prop := ∃ q ∈ l, q.1 = o.1 ∧ gss W E q.2.1 q.2.2.1 q.2.2.2 o.2.1 o.2.2 h
theorem aout.one {W : AW} {E : Nat → Int} {h : XH} {pc : Nat} {A : List (Option AV)} {S : List AV} {m : AM} {L : XL} {st : List Value} (hg : gss W E A S m L st h) : aout W E h [(pc, A, S, m)] (pc, L, st) := ⟨_, List.mem_singleton.mpr rfl, rfl, hg⟩
section AL
variable {W : AW} {E : Nat → Int} {L : XL} {h : XH} {A : List (Option AV)} {S : List AV} {m : AM} {st : List Value}
theorem ga_ref {a : AV} {v : Value} (h0 : aisr a.1 = true) (hv : ga W a v) : v = .null ∨ ∃ k, v = .ref k := by
  unfold ga at hv
  obtain ⟨t, lo, hi, sy, of, sr⟩ := a
  dsimp only at hv h0
  match t with
  | 0 => cases h0
  | 1 => cases h0
  | 2 => obtain ⟨k, e, -⟩ := hv; exact Or.inr ⟨k, e⟩
  | 3 => exact hv.imp id fun ⟨k, e, _⟩ => ⟨k, e⟩
  | 4 => exact Or.inl hv
  | t + 5 => cases h0
theorem ga_cat {a : AV} {v : Value} (h0 : ga W a v) (h1 : v.category = 2) : a.1 = 1 := by
  unfold ga at h0
  obtain ⟨t, lo, hi, sy, of, sr⟩ := a
  dsimp only at h0 ⊢
  match t with
  | 0 => obtain ⟨x, rfl, -⟩ := h0; cases h1
  | 1 => rfl
  | 2 => obtain ⟨x, rfl, -⟩ := h0; cases h1
  | 3 => rcases h0 with rfl | ⟨x, rfl, -⟩ <;> cases h1
  | 4 => subst h0; cases h1
  | t + 5 => exact h0.elim
theorem afree_ok (hA : gls W E L h A) {i : Nat} (hf : afree A i = true) : xfree L i = true := by
  cases i with
  | zero => rfl
  | succ j =>
    simp only [afree] at hf
    simp only [xfree]
    split at hf
    · rename_i a ha
      obtain ⟨d, hd, v, rfl, hv⟩ := hA.2 j _ ha
      rw [hd]
      dsimp only
      by_cases hc : v.category = 2
      · have := ga_cat hv.1 hc
        rw [this] at hf
        cases hf
      · simpa using hc
    · rename_i ha
      obtain ⟨d, hd, hv⟩ := hA.2 j _ ha
      rw [hd]
      cases d with
      | none => rfl
      | some v =>
        dsimp only
        simpa using hv v rfl
    · cases hf
theorem gv_mark {a : AV} {v : Value} {i : Nat} (hi : i < 999) (hv : gv W E L h a v) (hl : L[i]? = some (some v)) : gv W E L h (amark a i) v :=
  ⟨hv.1, hv.2.1, fun _ _ => hl, fun h0 => absurd (show 1000 ≤ i + 1 from h0) (by omega)⟩
theorem gst.setL {n : Nat} {d : Option Value} : ∀ {s : List AV} {t : List Value}, gst W E L h s t → gst W E (L.set n d) h (s.map (aunS (n + 1))) t
  | [], [], _ => trivial
  | [], _ :: _, hs => hs
  | _ :: _, [], hs => hs
  | _ :: _, _ :: _, hs => ⟨hs.1.setL, gst.setL hs.2⟩
theorem gls.setL {n : Nat} {d : Option Value} {o : Option AV} (hA : gls W E L h A) (ho : gl W E (L.set n d) h o d) : gls W E (L.set n d) h ((A.map (Option.map (aunS (n + 1)))).set n o) := by
  refine ⟨by simpa using hA.1, fun q p hp => ?_⟩
  by_cases hq : n = q
  · subst hq
    have hl : n < A.length := by
      have := (List.getElem?_eq_some_iff.mp hp).1
      simpa using this
    rw [List.getElem?_set_self (by simpa using hl)] at hp
    cases hp
    exact ⟨d, List.getElem?_set_self (by rw [← hA.1]; exact hl), ho⟩
  · rw [List.getElem?_set_ne hq, List.getElem?_map] at hp
    cases hz : A[q]? with
    | none => rw [hz] at hp; cases hp
    | some p0 =>
      rw [hz] at hp
      cases hp
      obtain ⟨e, he, hg⟩ := hA.2 q p0 hz
      refine ⟨e, by rw [List.getElem?_set_ne hq]; exact he, ?_⟩
      cases p0 with
      | none => exact hg
      | some a =>
        obtain ⟨u, rfl, hu⟩ := hg
        exact ⟨u, rfl, hu.setL⟩
theorem gss.push {a : AV} {v : Value} (hg : gss W E A S m L st h) (hv : gv W E L h a v) : gss W E A (a :: S) m L (v :: st) h := ⟨hg.1, ⟨hv, hg.2.1⟩, hg.2.2⟩
theorem gss.pop {a : AV} (hg : gss W E A (a :: S) m L st h) : ∃ v t, st = v :: t ∧ gv W E L h a v ∧ gss W E A S m L t h := by
  cases st with
  | nil => exact hg.2.1.elim
  | cons v t => exact ⟨v, t, rfl, hg.2.1.1, hg.1, hg.2.1.2, hg.2.2⟩
theorem gss.setL {n : Nat} {d : Option Value} {o : Option AV} (hg : gss W E A S m L st h) (ho : gl W E (L.set n d) h o d) : gss W E ((A.map (Option.map (aunS (n + 1)))).set n o) (S.map (aunS (n + 1))) m (L.set n d) st h := ⟨hg.1.setL ho, hg.2.1.setL, hg.2.2⟩
theorem gv_plain {a : AV} {v : Value} (hv : ga W a v) (h1 : a.1 = 0 → a.2.2.2.1 = 0) (h2 : a.2.2.2.2.2 = 0) : gv W E L h a v := ⟨hv, fun h0 h3 => absurd (h1 h0) (by omega), fun h3 => absurd h2 (by omega), fun h3 => absurd h2 (by omega)⟩
theorem gv_I {x : Int32} {lo hi : Int} (h1 : lo ≤ x.toInt) (h2 : x.toInt ≤ hi) : gv W E L h (avI lo hi) (.int x) := gv_plain (ga_of rfl ⟨h1, h2⟩) (fun _ => rfl) rfl
theorem gv_L (x : Int64) : gv W E L h avL (.long x) := gv_plain ⟨x, rfl⟩ (fun h => by cases h) rfl
end AL
