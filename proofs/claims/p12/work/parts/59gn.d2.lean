/-! lives: d2 -/
theorem lvC_b {f : Nat → Int32} {k : Nat} {s : LV} {j : Nat} (hj : ¬ j = 8 + k) : (lvC f k s).1 j = s.1 j := by
  unfold lvC
  split
  · rfl
  · split
    · rfl
    · split
      · exact upd_ne hj
      · split <;> rfl
/-- children whose maybes come later are not born yet -/
def FUT (f : Nat → Int32) (m Y k : Nat) (s : LV) : Prop := ∀ j, j < m → ((Y : Int) < (f (122 + j)).toInt ∨ ((f (122 + j)).toInt = (Y : Int) ∧ k ≤ j)) → s.1 (8 + j) = i99
theorem sim_m {n : Nat} {ag : Nat → Int32} {Y : Nat} (hY : Y ≤ 40) (hn : n ≤ 8) {f ki wh ye : Nat → Int32} {m : Nat} (hm : m ≤ 6) (hf : mbOK f m) (e1 : ∀ k, k < m → ki k = f (110 + k)) (e2 : ∀ k, k < m → wh k = f (116 + k)) (e3 : ∀ k, k < m → ye k = f (122 + k)) (set : Int32) {x : CX} {s : LV} (hs : SIM n ag Y x s) (hF : FUT f m Y 0 s) : ∀ k, k ≤ m → SIM n ag Y (coM ki wh ye set Y k x) (lvM f set Y k s) ∧ FUT f m Y k (lvM f set Y k s)
  | 0, _ => ⟨hs, hF⟩
  | k + 1, hk => by
    obtain ⟨i1, i2⟩ := sim_m hY hn hm hf e1 e2 e3 set hs hF k (by omega)
    unfold coM lvM
    rw [e1 k (by omega), e2 k (by omega), e3 k (by omega)]
    by_cases c : lvB set k ∧ f (122 + k) = nI Y
    · rw [if_pos c, if_pos c]
      have ey : (f (122 + k)).toInt = (Y : Int) := by rw [c.2, nI_toInt (by omega)]
      refine ⟨sim_c hY hn i1 (by omega) (hf k (by omega)).1 (hf k (by omega)).2 c.2 (i2 k (by omega) (Or.inr ⟨ey, Nat.le_refl k⟩)), fun j hj hq => ?_⟩
      have hne : ¬ 8 + j = 8 + k := fun e => by
        have e : j = k := by omega
        subst e
        rcases hq with q | q
        · omega
        · omega
      rw [lvC_b hne]
      exact i2 j hj (hq.imp id fun q => ⟨q.1, by omega⟩)
    · rw [if_neg c, if_neg c]
      exact ⟨i1, fun j hj hq => i2 j hj (hq.imp id fun q => ⟨q.1, by omega⟩)⟩
theorem lvIn.up {Y : Nat} {x : Int32} (h : lvIn Y x) : lvIn (Y + 1) x := h.imp id fun q => ⟨q.1, by omega⟩
theorem SIM.up {n : Nat} {ag : Nat → Int32} {Y : Nat} {x : CX} {s : LV} (h : SIM n ag Y x s) : SIM n ag (Y + 1) x s := by
  obtain ⟨s1, s2, s3, s4, s5, b1, b2, b3, b4, s0⟩ := h
  exact ⟨s1, s2, s3, s4, s5, fun i hi => (b1 i hi).up, fun i hi => (b2 i hi).up, fun i hi => (b3 i hi).up, fun i hi => (b4 i hi).up, s0⟩
/-- the years of the maybes -/
theorem coM_0 {f ki wh ye : Nat → Int32} {m : Nat} (hy : yrOK f m) (e3 : ∀ k, k < m → ye k = f (122 + k)) (set : Int32) (x : CX) : ∀ k, k ≤ m → coM ki wh ye set 0 k x = x
  | 0, _ => rfl
  | k + 1, hk => by
    unfold coM
    rw [if_neg (fun q => ?_), coM_0 hy e3 set x k (by omega)]
    have e := congrArg Int32.toInt q.2
    rw [e3 k (by omega), nI_toInt (by omega)] at e
    have := (hy k (by omega)).1
    omega
theorem sim_y {n : Nat} {ag : Nat → Int32} (hn : n ≤ 8) {f ki wh ye : Nat → Int32} {m : Nat} (hm : m ≤ 6) (hf : mbOK f m) (hy : yrOK f m) (e1 : ∀ k, k < m → ki k = f (110 + k)) (e2 : ∀ k, k < m → wh k = f (116 + k)) (e3 : ∀ k, k < m → ye k = f (122 + k)) (set : Int32) {x : CX} {s : LV} (hs : SIM n ag 0 x s) (hF : FUT f m 1 0 s) : ∀ Y, Y ≤ 40 → SIM n ag Y (coY ki wh ye set m (Y + 1) x) (lvY f set m Y s) ∧ FUT f m (Y + 1) 0 (lvY f set m Y s)
  | 0, _ => by
    refine ⟨?_, hF⟩
    show SIM n ag 0 (coM ki wh ye set 0 m x) s
    rw [coM_0 hy e3 set x m (Nat.le_refl m)]
    exact hs
  | Y + 1, hY => by
    obtain ⟨i1, i2⟩ := sim_y hn hm hf hy e1 e2 e3 set hs hF Y (by omega)
    obtain ⟨j1, j2⟩ := sim_m (Y := Y + 1) hY hn hm hf e1 e2 e3 set i1.up i2 m (Nat.le_refl m)
    exact ⟨j1, fun j hj hq => j2 j hj (Or.inl (by omega))⟩
/-- at first -/
theorem sim_0 {n : Nat} {ag : Nat → Int32} (hn : n ≤ 8) {x : CX} (h1 : x.1 = ((Int32.ofInt 1 <<< (nI n &&& 31)) - Int32.ofInt 1, Int32.ofInt 0, Int32.ofInt 0)) (h2 : ∀ j, j < 14 → x.2.1 j = if j < n then - ag j else c1000) (h3 : ∀ j, j < 14 → x.2.2.1 j = c1000) : SIM n ag 0 x (lv0 n) := by
  obtain ⟨⟨an, wn, dn⟩, bi, dt, ch⟩ := x
  cases h1
  have b0 : ∀ i, (lv0 n).1 i = if i < n then Int32.ofInt 0 else i99 := fun i => rfl
  have c0 : ¬ Int32.ofInt 0 = i99 := by decide
  have i0 : (Int32.ofInt 0).toInt = 0 := by decide
  refine ⟨fun i hi => ?_, fun i hi => ?_, fun i hi => ?_, fun i hi => ?_, fun i hi => ?_, fun i hi => ?_, fun i hi => Or.inl rfl, fun i hi => Or.inl rfl, fun i hi => Or.inl rfl, fun i hi _ => rfl⟩
  · rw [b0]
    have q := lvB_low ⟨n, by omega⟩ ⟨i, hi⟩
    dsimp only at q ⊢
    rw [q]
    by_cases c : i < n
    · rw [if_pos c]
      exact ⟨fun _ => ⟨c0, rfl⟩, fun _ => c⟩
    · rw [if_neg c]
      exact ⟨fun z => absurd z c, fun z => absurd rfl z.1⟩
  · exact ⟨fun z => absurd z (lvB_0 ⟨i, hi⟩), fun z => absurd rfl z⟩
  · exact ⟨fun z => absurd z (lvB_0 ⟨i, by omega⟩), fun z => absurd rfl z⟩
  · exact (h3 i hi).trans (if_pos rfl).symm
  · refine (h2 i hi).trans ?_
    by_cases c : i < n
    · rw [if_pos c, if_pos c]
    · rw [if_neg c, if_neg c]
      have e : (lv0 n).1 i = i99 := by rw [b0, if_neg c]
      rw [if_pos e]
  · rw [b0]
    by_cases c : i < n
    · rw [if_pos c]
      exact Or.inr (by rw [i0]; omega)
    · rw [if_neg c]
      exact Or.inl rfl
theorem fut_0 {f : Nat → Int32} {n m : Nat} (hn : n ≤ 8) : FUT f m 1 0 (lv0 n) := fun j hj _ => if_neg (by omega)
