/-! lives: b1 -/
theorem sh1 {j : Nat} (hj : j < 32) : (Int32.ofInt 1 <<< (nI j &&& 31)).toBitVec = 1#32 <<< j := by
  rw [Int32.toBitVec_shiftLeft, nI_31 ⟨j, hj⟩]
  show 1#32 <<< (BitVec.ofNat 32 j) = 1#32 <<< j
  rw [BitVec.shiftLeft_eq']
  congr 1
  rw [BitVec.toNat_ofNat]
  omega
theorem sh1_bit {i j : Nat} (hi : i < 32) : (1#32 <<< j).getLsbD i = decide (i = j) := by
  rw [BitVec.getLsbD_shiftLeft, BitVec.getLsbD_one]
  by_cases h : i = j
  · subst h
    simp [hi]
  · simp only [hi, decide_true, Bool.true_and]
    by_cases h2 : i < j
    · simp [h2, h]
    · have h3 : ¬ i - j = 0 := by omega
      simp [h2, h, h3]
theorem lvB_or {x : Int32} {i j : Nat} (hi : i < 32) (hj : j < 32) : lvB (x ||| (Int32.ofInt 1 <<< (nI j &&& 31))) i ↔ lvB x i ∨ i = j := by
  rw [lvB_iff hi, lvB_iff hi, Int32.toBitVec_or, sh1 hj, BitVec.getLsbD_or, sh1_bit hi]
  simp
theorem lvB_not {x : Int32} {i j : Nat} (hi : i < 32) (hj : j < 32) : lvB (x &&& ((Int32.ofInt 1 <<< (nI j &&& 31)) ^^^ Int32.ofInt (-1))) i ↔ lvB x i ∧ ¬ i = j := by
  rw [lvB_iff hi, lvB_iff hi, Int32.toBitVec_and, Int32.toBitVec_xor, sh1 hj, BitVec.getLsbD_and, BitVec.getLsbD_xor, sh1_bit hi, show (Int32.ofInt (-1)).toBitVec = BitVec.allOnes 32 from rfl, BitVec.getLsbD_allOnes]
  simp [hi]
theorem lvB_low : ∀ (n : Fin 9) (i : Fin 14), lvB ((Int32.ofInt 1 <<< (nI n.val &&& 31)) - Int32.ofInt 1) i.val ↔ i.val < n.val := by decide +kernel
theorem lvB_0 : ∀ i : Fin 14, ¬ lvB (Int32.ofInt 0) i.val := by decide +kernel
/-- the bit itself is 0 or 1 -/
theorem lvB_01 {x : Int32} {i : Nat} (hi : i < 32) : (x >>> (nI i &&& 31)) &&& Int32.ofInt 1 = if lvB x i then 1 else 0 := by
  by_cases h : lvB x i
  · rw [if_pos h]
    exact h
  · rw [if_neg h]
    have e : ¬ x.toBitVec.getLsbD i = true := fun q => h ((lvB_iff hi).mpr q)
    rw [← Int32.toBitVec_inj, Int32.toBitVec_and, Int32.toBitVec_shiftRight, nI_31 ⟨i, hi⟩, show (Int32.ofInt 1).toBitVec = 1#32 from rfl, BitVec.and_one_eq_setWidth_ofBool_getLsbD]
    unfold BitVec.sshiftRight'
    rw [BitVec.getLsbD_sshiftRight, show (BitVec.ofNat 32 i).toNat = i by rw [BitVec.toNat_ofNat]; omega]
    have e' : x.toBitVec.getLsbD i = false := by cases q : x.toBitVec.getLsbD i with
      | false => rfl
      | true => exact absurd q e
    simp [hi]
    rw [← BitVec.getLsbD_eq_getElem, e']
    rfl
