/-! lives: b0 -/
theorem nI_31 : ∀ i : Fin 32, (nI i.val &&& 31).toBitVec.smod 32 = BitVec.ofNat 32 i.val := by decide +kernel
theorem bit1 (b : Bool) : (BitVec.setWidth 32 (BitVec.ofBool b) = 1#32) ↔ b = true := by cases b <;> decide
theorem lvB_iff {x : Int32} {i : Nat} (hi : i < 32) : lvB x i ↔ x.toBitVec.getLsbD i = true := by
  unfold lvB
  rw [← Int32.toBitVec_inj, Int32.toBitVec_and, Int32.toBitVec_shiftRight]
  rw [nI_31 ⟨i, hi⟩, show (Int32.ofInt 1).toBitVec = 1#32 from rfl, BitVec.and_one_eq_setWidth_ofBool_getLsbD, bit1]
  unfold BitVec.sshiftRight'
  rw [BitVec.getLsbD_sshiftRight]
  rw [show (BitVec.ofNat 32 i).toNat = i by rw [BitVec.toNat_ofNat]; omega]
  simp [hi]
