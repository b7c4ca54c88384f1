theorem i32_div {x y : Int32} (hy : 0 < y.toInt) : (x / y).toInt = x.toInt.tdiv y.toInt := by
  rw [Int32.toInt_div]
  have a := i32_lo x
  have b := i32_hi x
  have k : -2147483648 ≤ x.toInt.tdiv y.toInt ∧ x.toInt.tdiv y.toInt ≤ 2147483647 := by
    have h1 : (x.toInt.tdiv y.toInt).natAbs ≤ x.toInt.natAbs := by
      rw [Int.natAbs_tdiv]
      exact Nat.div_le_self _ _
    rcases Int.le_total 0 x.toInt with h | h
    · have := Int.tdiv_nonneg h (Int.le_of_lt hy)
      omega
    · have : x.toInt.tdiv y.toInt ≤ 0 := by
        have := Int.tdiv_nonneg (a := -x.toInt) (b := y.toInt) (by omega) (Int.le_of_lt hy)
        rw [Int.neg_tdiv] at this
        omega
      omega
  exact i32_bm k.1 k.2
theorem i32_mod {x y : Int32} (hy : 0 < y.toInt) : (x - x / y * y).toInt = x.toInt.tmod y.toInt := by
  have e := i32_div (x := x) hy
  have hm := Int.tmod_add_mul_tdiv x.toInt y.toInt
  have a := i32_lo x
  have b := i32_hi x
  have k0 : (x.toInt.tdiv y.toInt * y.toInt) = x.toInt - x.toInt.tmod y.toInt := by rw [Int.mul_comm]; omega
  have hlt := Int.tmod_lt_of_pos x.toInt hy
  have hb : 0 ≤ x.toInt → 0 ≤ x.toInt.tmod y.toInt ∧ x.toInt.tmod y.toInt ≤ x.toInt := fun h => ⟨Int.tmod_nonneg _ h, by
    have := Int.mul_nonneg (Int.tdiv_nonneg h (Int.le_of_lt hy)) (Int.le_of_lt hy)
    omega⟩
  have hc : x.toInt ≤ 0 → x.toInt ≤ x.toInt.tmod y.toInt ∧ x.toInt.tmod y.toInt ≤ 0 := fun h => by
    have h1 := Int.tmod_nonneg (a := -x.toInt) y.toInt (by omega)
    have h2 := Int.mul_nonneg (Int.tdiv_nonneg (a := -x.toInt) (b := y.toInt) (by omega) (Int.le_of_lt hy)) (Int.le_of_lt hy)
    rw [Int.neg_tmod] at h1
    rw [Int.neg_tdiv, Int.neg_mul] at h2
    omega
  have e2 : (x / y * y).toInt = x.toInt - x.toInt.tmod y.toInt := by
    rw [i32_mul (by rw [e, k0]; rcases Int.le_total 0 x.toInt with h | h; have := hb h; omega; have := hc h; omega) (by rw [e, k0]; rcases Int.le_total 0 x.toInt with h | h; have := hb h; omega; have := hc h; omega), e, k0]
  rw [i32_sub (by rw [e2]; rcases Int.le_total 0 x.toInt with h | h; have := hb h; omega; have := hc h; omega) (by rw [e2]; rcases Int.le_total 0 x.toInt with h | h; have := hb h; omega; have := hc h; omega), e2]
  omega
theorem i32_ne0 {y : Int32} (h : 0 < y.toInt) : ¬ y = 0 := fun e => by rw [e] at h; exact absurd h (by decide)
theorem gi_div {a b c : AV} {x y : Int32} (h1 : gi a x) (h2 : gi b y) (hc : adiv a b = some c) : ¬ y = 0 ∧ gi c (x / y) := by
  obtain ⟨p1, p2⟩ := h1
  obtain ⟨q1, q2⟩ := h2
  unfold adiv at hc
  split at hc
  · rename_i hb
    cases hc
    have hy : 0 < y.toInt := by omega
    refine ⟨i32_ne0 hy, ?_⟩
    split
    · have e := i32_div (x := x) hy
      have h0 : 0 ≤ x.toInt := by omega
      refine ⟨by show 0 ≤ _; rw [e]; exact Int.tdiv_nonneg h0 (Int.le_of_lt hy), ?_⟩
      show _ ≤ a.2.2.1
      rw [e]
      have h1 : (x.toInt.tdiv y.toInt).natAbs ≤ x.toInt.natAbs := by
        rw [Int.natAbs_tdiv]
        exact Nat.div_le_self _ _
      omega
    · exact gi_T _
  · cases hc
theorem gi_rem {a b c : AV} {x y : Int32} (h1 : gi a x) (h2 : gi b y) (hc : arem a b = some c) : ¬ y = 0 ∧ gi c (x - x / y * y) := by
  obtain ⟨p1, p2⟩ := h1
  obtain ⟨q1, q2⟩ := h2
  unfold arem at hc
  split at hc
  · rename_i hb
    cases hc
    have hy : 0 < y.toInt := by omega
    refine ⟨i32_ne0 hy, ?_⟩
    have e := i32_mod (x := x) hy
    have hlt := Int.tmod_lt_of_pos x.toInt hy
    split
    · refine ⟨by show 0 ≤ _; rw [e]; exact Int.tmod_nonneg _ (by omega), ?_⟩
      show _ ≤ b.2.2.1 - 1
      omega
    · refine ⟨?_, by show _ ≤ b.2.2.1 - 1; omega⟩
      show -(b.2.2.1 - 1) ≤ _
      rw [e]
      rcases Int.le_total 0 x.toInt with h | h
      · have := Int.tmod_nonneg y.toInt h
        omega
      · have h3 := Int.tmod_lt_of_pos (-x.toInt) hy
        rw [Int.neg_tmod] at h3
        omega
  · cases hc
