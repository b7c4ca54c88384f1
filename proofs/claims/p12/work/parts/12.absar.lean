/-! the bounds' own reckoning is right -/
theorem i32_lo (x : Int32) : -2147483648 ≤ x.toInt := Int32.le_toInt x
theorem i32_hi (x : Int32) : x.toInt ≤ 2147483647 := by have := Int32.toInt_lt x; omega
theorem i32_bm {z : Int} (h1 : -2147483648 ≤ z) (h2 : z ≤ 2147483647) : z.bmod 4294967296 = z := by
  rw [Int.bmod_def]
  split <;> omega
theorem i32_add {x y : Int32} (h1 : -2147483648 ≤ x.toInt + y.toInt) (h2 : x.toInt + y.toInt ≤ 2147483647) : (x + y).toInt = x.toInt + y.toInt := by
  rw [Int32.toInt_add]
  exact i32_bm h1 h2
theorem i32_sub {x y : Int32} (h1 : -2147483648 ≤ x.toInt - y.toInt) (h2 : x.toInt - y.toInt ≤ 2147483647) : (x - y).toInt = x.toInt - y.toInt := by
  rw [Int32.toInt_sub]
  exact i32_bm h1 h2
theorem i32_mul {x y : Int32} (h1 : -2147483648 ≤ x.toInt * y.toInt) (h2 : x.toInt * y.toInt ≤ 2147483647) : (x * y).toInt = x.toInt * y.toInt := by
  rw [Int32.toInt_mul]
  exact i32_bm h1 h2
theorem i32_neg {x : Int32} (h1 : -2147483647 ≤ x.toInt) : (-x).toInt = -x.toInt := by
  rw [Int32.toInt_neg]
  exact i32_bm (by have := i32_hi x; omega) (by omega)
theorem i32_of {z : Int} (h1 : -2147483648 ≤ z) (h2 : z ≤ 2147483647) : (Int32.ofInt z).toInt = z := by
  rw [Int32.toInt_ofInt]
  exact i32_bm h1 h2
def gi (a : AV) (x : Int32) : Prop := a.2.1 ≤ x.toInt ∧ x.toInt ≤ a.2.2.1
theorem ga_int {W : AW} {a : AV} {v : Value} (h0 : a.1 = 0) (h : ga W a v) : ∃ x : Int32, v = .int x ∧ gi a x := by
  unfold ga at h
  rw [h0] at h
  exact h
theorem ga_of {W : AW} {a : AV} {x : Int32} (h0 : a.1 = 0) (h : gi a x) : ga W a (.int x) := by
  unfold ga
  rw [h0]
  exact ⟨x, rfl, h⟩
theorem gi_T (x : Int32) : gi avT x := ⟨i32_lo x, i32_hi x⟩
theorem gi_cl {lo hi : Int} {x : Int32} (h1 : lo ≤ x.toInt) (h2 : x.toInt ≤ hi) : gi (acl lo hi) x := by
  unfold acl
  split
  · exact ⟨h1, h2⟩
  · exact gi_T x
theorem gi_add {a b : AV} {x y : Int32} (h1 : gi a x) (h2 : gi b y) : gi (aadd a b) (x + y) := by
  obtain ⟨p1, p2⟩ := h1
  obtain ⟨q1, q2⟩ := h2
  unfold aadd
  split
  · exact gi_T _
  · rename_i hc
    have e : (x + y).toInt = x.toInt + y.toInt := i32_add (by omega) (by omega)
    split
    · exact ⟨by show _ ≤ (x + y).toInt; rw [e]; show a.2.1 + b.2.1 ≤ _; omega, by rw [e]; show _ ≤ a.2.2.1 + b.2.1; omega⟩
    · split
      · exact ⟨by show _ ≤ (x + y).toInt; rw [e]; show a.2.1 + b.2.1 ≤ _; omega, by rw [e]; show _ ≤ a.2.1 + b.2.2.1; omega⟩
      · exact ⟨by show _ ≤ (x + y).toInt; rw [e]; show a.2.1 + b.2.1 ≤ _; omega, by rw [e]; show _ ≤ a.2.2.1 + b.2.2.1; omega⟩
theorem gi_sub {a b : AV} {x y : Int32} (h1 : gi a x) (h2 : gi b y) : gi (asub a b) (x - y) := by
  obtain ⟨p1, p2⟩ := h1
  obtain ⟨q1, q2⟩ := h2
  unfold asub
  split
  · exact gi_T _
  · rename_i hc
    have e : (x - y).toInt = x.toInt - y.toInt := i32_sub (by omega) (by omega)
    split
    · exact ⟨by show _ ≤ (x - y).toInt; rw [e]; show a.2.1 - b.2.1 ≤ _; omega, by rw [e]; show _ ≤ a.2.2.1 - b.2.1; omega⟩
    · exact ⟨by show _ ≤ (x - y).toInt; rw [e]; show a.2.1 - b.2.2.1 ≤ _; omega, by rw [e]; show _ ≤ a.2.2.1 - b.2.1; omega⟩
theorem gi_neg {a : AV} {x : Int32} (h : gi a x) : gi (aneg a) (-x) := by
  obtain ⟨p1, p2⟩ := h
  unfold aneg acl
  split
  · rename_i hc
    have e : (-x).toInt = -x.toInt := i32_neg (by omega)
    exact ⟨by show _ ≤ (-x).toInt; rw [e]; show -a.2.2.1 ≤ _; omega, by rw [e]; show _ ≤ -a.2.1; omega⟩
  · exact gi_T _
