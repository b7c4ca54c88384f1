theorem imul_b {p1 p2 x y : Int} (h1 : p1 ≤ x) (h2 : x ≤ p2) : min (p1 * y) (p2 * y) ≤ x * y ∧ x * y ≤ max (p1 * y) (p2 * y) := by
  rcases Int.le_total 0 y with h | h
  · have a := Int.mul_le_mul_of_nonneg_right h1 h
    have b := Int.mul_le_mul_of_nonneg_right h2 h
    omega
  · have a := Int.mul_le_mul_of_nonpos_right h1 h
    have b := Int.mul_le_mul_of_nonpos_right h2 h
    omega
theorem gi_mul {a b : AV} {x y : Int32} (h1 : gi a x) (h2 : gi b y) : gi (amul a b) (x * y) := by
  obtain ⟨p1, p2⟩ := h1
  obtain ⟨q1, q2⟩ := h2
  have k1 := imul_b (y := y.toInt) p1 p2
  have k2 := imul_b (y := a.2.1) q1 q2
  have k3 := imul_b (y := a.2.2.1) q1 q2
  rw [Int.mul_comm y.toInt] at k2 k3
  rw [Int.mul_comm b.2.1, Int.mul_comm b.2.2.1] at k2 k3
  unfold amul acl
  split
  · rename_i hc
    have e : (x * y).toInt = x.toInt * y.toInt := i32_mul (by omega) (by omega)
    refine ⟨?_, ?_⟩
    · show _ ≤ (x * y).toInt
      rw [e]
      show min (min (a.2.1 * b.2.1) (a.2.1 * b.2.2.1)) (min (a.2.2.1 * b.2.1) (a.2.2.1 * b.2.2.1)) ≤ _
      omega
    · show (x * y).toInt ≤ _
      rw [e]
      show _ ≤ max (max (a.2.1 * b.2.1) (a.2.1 * b.2.2.1)) (max (a.2.2.1 * b.2.1) (a.2.2.1 * b.2.2.1))
      omega
  · exact gi_T _
theorem i32_nat (x : Int32) : x.toInt = if 2 * x.toBitVec.toNat < 4294967296 then (x.toBitVec.toNat : Int) else (x.toBitVec.toNat : Int) - 4294967296 := BitVec.toInt_eq_toNat_cond x.toBitVec
theorem i32_and {x y : Int32} (h : 0 ≤ y.toInt) : 0 ≤ (x &&& y).toInt ∧ (x &&& y).toInt ≤ y.toInt := by
  have e1 := i32_nat y
  have e2 := i32_nat (x &&& y)
  have e3 : (x &&& y).toBitVec.toNat = x.toBitVec.toNat &&& y.toBitVec.toNat := by
    rw [Int32.toBitVec_and, BitVec.toNat_and]
  have e4 : x.toBitVec.toNat &&& y.toBitVec.toNat ≤ y.toBitVec.toNat := Nat.and_le_right
  have e5 := y.toBitVec.isLt
  rw [← e3] at e4
  split at e1
  · rw [if_pos (by omega)] at e2
    omega
  · omega
theorem gi_and {a b : AV} {x y : Int32} (h1 : gi a x) (h2 : gi b y) : gi (aand a b) (x &&& y) := by
  obtain ⟨p1, p2⟩ := h1
  obtain ⟨q1, q2⟩ := h2
  have sw : x &&& y = y &&& x := Int32.and_comm x y
  unfold aand
  split
  · have k1 := i32_and (x := y) (y := x) (by omega)
    rw [← sw] at k1
    split
    · have k2 := i32_and (x := x) (y := y) (by omega)
      exact ⟨k2.1, by show _ ≤ min a.2.2.1 b.2.2.1; omega⟩
    · exact ⟨k1.1, by show _ ≤ a.2.2.1; omega⟩
  · split
    · have k2 := i32_and (x := x) (y := y) (by omega)
      exact ⟨k2.1, by show _ ≤ b.2.2.1; omega⟩
    · exact gi_T _
theorem i32_shl1 : ∀ n : Fin 31, ((1 : Int32) <<< (Int32.ofNat n.val &&& 31)).toInt = ((2 ^ n.val : Nat) : Int) := by decide +kernel
theorem i32_is {x : Int32} {n : Nat} (hn : n < 2147483648) (h : x.toInt = (n : Int)) : x = Int32.ofNat n := Int32.toInt_inj.mp (by rw [h]; exact (nI_toInt (by omega)).symm)
theorem gi_shl {a b : AV} {x y : Int32} (h1 : gi a x) (h2 : gi b y) : gi (ashl a b) (x <<< (y &&& 31)) := by
  obtain ⟨p1, p2⟩ := h1
  obtain ⟨q1, q2⟩ := h2
  unfold ashl
  split
  · rename_i hc
    obtain ⟨c1, c2, c3, c4⟩ := hc
    have ex : x = 1 := i32_is (n := 1) (by omega) (by omega)
    have ey : y = Int32.ofNat y.toInt.toNat := i32_is (by omega) (by omega)
    have k := i32_shl1 ⟨y.toInt.toNat, by omega⟩
    dsimp only at k
    rw [← ey] at k
    subst ex
    have m1 : 2 ^ b.2.1.toNat ≤ 2 ^ y.toInt.toNat := Nat.pow_le_pow_right (by decide) (by omega)
    have m2 : 2 ^ y.toInt.toNat ≤ 2 ^ b.2.2.1.toNat := Nat.pow_le_pow_right (by decide) (by omega)
    refine ⟨?_, ?_⟩
    · show (2 : Int) ^ b.2.1.toNat ≤ _
      rw [k]
      exact_mod_cast m1
    · show _ ≤ (2 : Int) ^ b.2.2.1.toNat
      rw [k]
      exact_mod_cast m2
  · exact gi_T _
