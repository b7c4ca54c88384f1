/-! lives: d3 -/
/-- what stood in a cell behind year t stays; what did not is written later only -/
def kp (t : Nat) (x y : Int32) : Prop := (¬ x = i99 → y = x) ∧ (x = i99 → y = i99 ∨ (t : Int) < y.toInt)
theorem kp.refl (t : Nat) (x : Int32) : kp t x x := ⟨fun _ => rfl, fun h => Or.inl h⟩
theorem kp.trans {t : Nat} {x y z : Int32} (a : kp t x y) (b : kp t y z) : kp t x z := by
  refine ⟨fun h => ?_, fun h => ?_⟩
  · have e := a.1 h
    exact (b.1 (by rw [e]; exact h)).trans e
  · rcases a.2 h with e | e
    · exact b.2 e
    · have hy : ¬ y = i99 ∨ y = i99 := (Classical.em (y = i99)).symm
      rcases hy with hy | hy
      · rw [b.1 hy]
        exact Or.inr e
      · exact b.2 hy
theorem kp_now {t Y : Nat} (h : t < Y) (hY : Y ≤ 40) : kp t i99 (nI Y) := ⟨fun h => absurd rfl h, fun _ => Or.inr (by rw [nI_toInt (by omega)]; omega)⟩
def KP (t : Nat) (s u : LV) : Prop := (∀ i, i < 14 → kp t (s.1 i) (u.1 i)) ∧ (∀ i, i < 14 → kp t (s.2.1 i) (u.2.1 i)) ∧ (∀ i, i < 14 → kp t (s.2.2.1 i) (u.2.2.1 i)) ∧ ∀ i, i < 4 → kp t (s.2.2.2 i) (u.2.2.2 i)
theorem KP.refl (t : Nat) (s : LV) : KP t s s := ⟨fun _ _ => kp.refl _ _, fun _ _ => kp.refl _ _, fun _ _ => kp.refl _ _, fun _ _ => kp.refl _ _⟩
theorem KP.trans {t : Nat} {s u v : LV} (a : KP t s u) (b : KP t u v) : KP t s v := ⟨fun i hi => (a.1 i hi).trans (b.1 i hi), fun i hi => (a.2.1 i hi).trans (b.2.1 i hi), fun i hi => (a.2.2.1 i hi).trans (b.2.2.1 i hi), fun i hi => (a.2.2.2 i hi).trans (b.2.2.2 i hi)⟩
theorem kp_upd {t N : Nat} {g : Nat → Int32} {k : Nat} {x : Int32} (h : kp t (g k) x) : ∀ i, i < N → kp t (g i) (upd g k x i) := fun i hi => by
  by_cases e : i = k
  · subst e
    rw [upd_at]
    exact h
  · rw [upd_ne e]
    exact kp.refl _ _
theorem KP_c {t Y : Nat} (ht : t < Y) (hY : Y ≤ 40) {f : Nat → Int32} {k : Nat} {s : LV} (hy : f (122 + k) = nI Y) (h8 : s.1 (8 + k) = i99) : KP t s (lvC f k s) := by
  unfold lvC
  rw [hy]
  split
  · refine ⟨fun _ _ => kp.refl _ _, fun _ _ => kp.refl _ _, fun _ _ => kp.refl _ _, kp_upd ?_⟩
    split
    · rename_i h9
      rw [h9]
      exact kp_now ht hY
    · exact kp.refl _ _
  · split
    · exact KP.refl t s
    · rename_i h3 hb
      have hd : s.2.1 (f (116 + k)).toNatClampNeg = i99 := Classical.byContradiction fun q => hb (Or.inr q)
      split
      · exact ⟨kp_upd (by rw [h8]; exact kp_now ht hY), fun _ _ => kp.refl _ _, fun _ _ => kp.refl _ _, fun _ _ => kp.refl _ _⟩
      · split
        · exact ⟨fun _ _ => kp.refl _ _, kp_upd (by rw [hd]; exact kp_now ht hY), fun _ _ => kp.refl _ _, fun _ _ => kp.refl _ _⟩
        · refine ⟨fun _ _ => kp.refl _ _, fun _ _ => kp.refl _ _, kp_upd ?_, fun _ _ => kp.refl _ _⟩
          split
          · rename_i h9
            rw [h9]
            exact kp_now ht hY
          · exact kp.refl _ _
theorem KP_m {t Y : Nat} (ht : t < Y) (hY : Y ≤ 40) {f : Nat → Int32} {m : Nat} (hm : m ≤ 6) (set : Int32) {s : LV} (hF : FUT f m Y 0 s) : ∀ k, k ≤ m → KP t s (lvM f set Y k s) ∧ FUT f m Y k (lvM f set Y k s)
  | 0, _ => ⟨KP.refl t s, hF⟩
  | k + 1, hk => by
    obtain ⟨i1, i2⟩ := KP_m ht hY hm set hF k (by omega)
    unfold lvM
    by_cases c : lvB set k ∧ f (122 + k) = nI Y
    · rw [if_pos c]
      have ey : (f (122 + k)).toInt = (Y : Int) := by rw [c.2, nI_toInt (by omega)]
      refine ⟨i1.trans (KP_c ht hY c.2 (i2 k (by omega) (Or.inr ⟨ey, Nat.le_refl k⟩))), fun j hj hq => ?_⟩
      have hne : ¬ 8 + j = 8 + k := fun e => by
        have e : j = k := by omega
        subst e
        rcases hq with q | q <;> omega
      rw [lvC_b hne]
      exact i2 j hj (hq.imp id fun q => ⟨q.1, by omega⟩)
    · rw [if_neg c]
      exact ⟨i1, fun j hj hq => i2 j hj (hq.imp id fun q => ⟨q.1, by omega⟩)⟩
theorem KP_y {f : Nat → Int32} {m : Nat} (hm : m ≤ 6) (set : Int32) {s : LV} {t : Nat} (hF : FUT f m (t + 1) 0 (lvY f set m t s)) : ∀ q, t + q ≤ 40 → KP t (lvY f set m t s) (lvY f set m (t + q) s) ∧ FUT f m (t + q + 1) 0 (lvY f set m (t + q) s)
  | 0, _ => ⟨KP.refl t _, hF⟩
  | q + 1, h => by
    obtain ⟨i1, i2⟩ := KP_y hm set hF q (by omega)
    obtain ⟨j1, j2⟩ := KP_m (t := t) (Y := t + q + 1) (by omega) (by omega) hm set i2 m (Nat.le_refl m)
    exact ⟨i1.trans j1, fun j hj hq => j2 j hj (Or.inl (by omega))⟩
/-- what stood behind year t, read off the end -/
theorem kp_end {t : Nat} (ht : t ≤ 40) {x y : Int32} (h : kp t x y) (hx : lvIn t x) : ¬ x = i99 ↔ y.toInt ≤ (t : Int) := by
  constructor
  · intro q
    rw [h.1 q]
    rcases hx with e | ⟨-, e⟩
    · exact absurd e q
    · exact e
  · intro q e
    rcases h.2 e with z | z
    · rw [z, i99_int] at q
      omega
    · omega
/-- the class's rows of a course against the model's count at the end -/
theorem course_is {n : Nat} {ag : Nat → Int32} (hn : n ≤ 8) {f ki wh ye : Nat → Int32} {m : Nat} (hm : m ≤ 6) (hf : mbOK f m) (hy : yrOK f m) (e1 : ∀ k, k < m → ki k = f (110 + k)) (e2 : ∀ k, k < m → wh k = f (116 + k)) (e3 : ∀ k, k < m → ye k = f (122 + k)) (set : Int32) {x : CX} (h1 : x.1 = ((Int32.ofInt 1 <<< (nI n &&& 31)) - Int32.ofInt 1, Int32.ofInt 0, Int32.ofInt 0)) (h2 : ∀ j, j < 14 → x.2.1 j = if j < n then - ag j else c1000) (h3 : ∀ j, j < 14 → x.2.2.1 j = c1000) {t : Nat} (ht : t ≤ 40) : (∀ i, i < 14 → (lvB (coY ki wh ye set m (t + 1) x).1.1 i ↔ ((lvOf f n m set).1 i).toInt ≤ (t : Int) ∧ (t : Int) < ((lvOf f n m set).2.1 i).toInt)) ∧ (∀ i, i < 14 → (lvB (coY ki wh ye set m (t + 1) x).1.2.1 i ↔ ((lvOf f n m set).2.2.1 i).toInt ≤ (t : Int))) ∧ ∀ i, i < 4 → (lvB (coY ki wh ye set m (t + 1) x).1.2.2 i ↔ ((lvOf f n m set).2.2.2 i).toInt ≤ (t : Int)) := by
  obtain ⟨⟨s1, s2, s3, s4, s5, b1, b2, b3, b4, s0⟩, hF⟩ := sim_y hn hm hf hy e1 e2 e3 set (sim_0 hn h1 h2 h3) (fut_0 hn) t ht
  obtain ⟨⟨k1, k2, k3, k4⟩, -⟩ := KP_y hm set hF (40 - t) (by omega)
  rw [show t + (40 - t) = 40 by omega] at k1 k2 k3 k4
  refine ⟨fun i hi => ?_, fun i hi => ?_, fun i hi => ?_⟩
  · rw [s1 i hi, kp_end ht (k1 i hi) (b1 i hi)]
    have q := kp_end ht (k2 i hi) (b2 i hi)
    constructor
    · rintro ⟨z1, z2⟩
      refine ⟨z1, ?_⟩
      have := fun w => q.mpr w z2
      exact Int.not_le.mp this
    · rintro ⟨z1, z2⟩
      exact ⟨z1, Classical.byContradiction fun w => absurd (q.mp w) (Int.not_le.mpr z2)⟩
  · rw [s2 i hi, kp_end ht (k3 i hi) (b3 i hi)]
    exact Iff.rfl
  · rw [s3 i hi, kp_end ht (k4 i hi) (b4 i hi)]
    exact Iff.rfl
