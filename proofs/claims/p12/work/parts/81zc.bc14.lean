/-! the library counts the bits of 32; of 14 as the model does -/
abbrev sh32 (x : Int32) (s : Int32) : Int32 := (x.toUInt32 >>> (s.toUInt32 &&& Int32.toUInt32 31)).toInt32
abbrev ti (x : Int32) : Nat := x.toBitVec.toNat
theorem ti_sh (x : Int32) {s : Int32} {k : Nat} (hs : (s.toUInt32 &&& Int32.toUInt32 31).toNat % 32 = k) : ti (sh32 x s) = ti x / 2 ^ k := by
  show (x.toUInt32 >>> (s.toUInt32 &&& Int32.toUInt32 31)).toNat = x.toBitVec.toNat / 2 ^ k
  exact (UInt32.toNat_shiftRight _ _).trans (by rw [hs]; exact Nat.shiftRight_eq_div_pow _ _)
theorem ti_and (x : Int32) {n : Nat} (hn : n < 2 ^ 32) : ti (x &&& Int32.ofNat n) = ti x &&& n := by
  show (x &&& Int32.ofNat n).toBitVec.toNat = _
  rw [Int32.toBitVec_and, BitVec.toNat_and, show (Int32.ofNat n).toBitVec = BitVec.ofNat 32 n from rfl, BitVec.toNat_ofNat, Nat.mod_eq_of_lt hn]
theorem ti_add {x y : Int32} (h : ti x + ti y < 2 ^ 32) : ti (x + y) = ti x + ti y := by
  show (x + y).toBitVec.toNat = _
  rw [Int32.toBitVec_add, BitVec.toNat_add, Nat.mod_eq_of_lt h]
theorem ti_sub {x y : Int32} (h : ti y ≤ ti x) : ti (x - y) = ti x - ti y := by
  have h0 : y.toBitVec.toNat ≤ x.toBitVec.toNat := h
  have h1 : x.toBitVec.toNat < 2 ^ 32 := x.toBitVec.isLt
  have h2 : y.toBitVec.toNat < 2 ^ 32 := y.toBitVec.isLt
  show (x - y).toBitVec.toNat = x.toBitVec.toNat - y.toBitVec.toNat
  rw [Int32.toBitVec_sub, BitVec.toNat_sub]
  omega
theorem ti_63 (x : Int32) : x &&& (Int8.ofInt 63).toInt32 = nI (ti x % 64) := by
  refine Int32.toBitVec_inj.mp (BitVec.eq_of_toNat_eq ?_)
  rw [Int32.toBitVec_and, BitVec.toNat_and, show ((Int8.ofInt 63).toInt32).toBitVec.toNat = 2 ^ 6 - 1 by decide, Nat.and_two_pow_sub_one_eq_mod]
  show x.toBitVec.toNat % 2 ^ 6 = (BitVec.ofNat 32 (ti x % 64)).toNat
  rw [BitVec.toNat_ofNat]
  show x.toBitVec.toNat % 2 ^ 6 = x.toBitVec.toNat % 64 % 2 ^ 32
  omega
theorem ti_A (x : Int32) : ti (bcA x) = dg 4 p4 16 (ti x) := by
  have hx : ti x < 2 ^ 32 := x.toBitVec.isLt
  have e : ti (sh32 x (Int32.ofInt 1) &&& Int32.ofNat 1431655765) = (ti x / 2 &&& nM 1 2 16) := by
    have t := ti_sh x (s := Int32.ofInt 1) (k := 1) (by decide)
    rw [Nat.pow_one] at t
    rw [ti_and _ (by decide), t, show nM 1 2 16 = 1431655765 by decide +kernel]
  have le : ti x / 2 &&& nM 1 2 16 ≤ ti x / 2 := Nat.and_le_left
  unfold bcA
  rw [ti_sub (by rw [e]; omega), e]
  exact st_A 16 (ti x) (by rw [show (4 : Nat) ^ 16 = 2 ^ 32 by decide +kernel]; exact hx)
theorem ti_B {x : Int32} {z : Nat} (h : ti x = dg 4 p4 16 z) : ti (bcB x) = dg 16 p16 8 z := by
  have l3 : nM 2 4 8 = 858993459 := by decide +kernel
  have e1 : ti (x &&& Int32.ofNat 858993459) = (ti x &&& nM 2 4 8) := by
    rw [ti_and _ (by decide), l3]
  have e2 : ti (sh32 x (Int32.ofInt 2) &&& Int32.ofNat 858993459) = (ti x / 4 &&& nM 2 4 8) := by
    have t := ti_sh x (s := Int32.ofInt 2) (k := 2) (by decide)
    rw [show (2 : Nat) ^ 2 = 4 from rfl] at t
    rw [ti_and _ (by decide), t, l3]
  have l1 : ti x &&& nM 2 4 8 ≤ nM 2 4 8 := Nat.and_le_right
  have l2 : ti x / 4 &&& nM 2 4 8 ≤ nM 2 4 8 := Nat.and_le_right
  unfold bcB
  have q := st_B 8 z
  rw [show 2 * 8 = 16 from rfl] at q
  rw [ti_add (by rw [e1, e2]; omega), e1, e2, h]
  exact q
theorem ti_C {x : Int32} {z : Nat} (h : ti x = dg 16 p16 8 z) (hb : ti x + ti x / 16 < 2 ^ 32) : ti (bcC x) = dg 256 p256 4 z := by
  have e2 : ti (sh32 x (Int32.ofInt 4)) = ti x / 16 := ti_sh x (k := 4) (by decide)
  have q := st_C 4 z
  rw [show nM 4 8 4 = 252645135 by decide +kernel, show 2 * 4 = 8 from rfl] at q
  unfold bcC
  rw [ti_and _ (by decide), ti_add (by rw [e2]; exact hb), e2, h]
  exact q
theorem dg256_4 (x : Nat) : dg 256 p256 4 x = p256 x + 256 * (p256 (x / 256) + 256 * (p256 (x / 256 / 256) + 256 * (p256 (x / 256 / 256 / 256)))) := by
  show p256 x + 256 * (p256 (x / 256) + 256 * (p256 (x / 256 / 256) + 256 * (p256 (x / 256 / 256 / 256) + 256 * 0))) = _
  rw [Nat.mul_zero, Nat.add_zero]
theorem pc_32 (x : Nat) : pcN 32 x = p256 x + (p256 (x / 256) + (p256 (x / 256 / 256) + p256 (x / 256 / 256 / 256))) := by
  refine (pc_8 24 x).trans (congrArg (fun t => p256 x + t) ?_)
  refine (pc_8 16 (x / 256)).trans (congrArg (fun t => p256 (x / 256) + t) ?_)
  refine (pc_8 8 (x / 256 / 256)).trans (congrArg (fun t => p256 (x / 256 / 256) + t) ?_)
  exact (pc_8 0 (x / 256 / 256 / 256)).trans (Nat.add_zero _)
theorem bc32_eq (x : Int32) : bc32 x = nI (pcN 32 (ti x)) := by
  have hA := ti_A x
  have hB := ti_B hA
  have hl := dg16_lt 8 (ti x)
  rw [show (16 : Nat) ^ 8 = 4294967296 by decide +kernel] at hl
  have hC := ti_C hB (by rw [hB]; omega)
  have e2 := pc_32 (ti x)
  obtain ⟨a, ha, la⟩ : ∃ a, p256 (ti x) = a ∧ a ≤ 8 := ⟨_, rfl, p256_le _⟩
  obtain ⟨b, hb, lb⟩ : ∃ b, p256 (ti x / 256) = b ∧ b ≤ 8 := ⟨_, rfl, p256_le _⟩
  obtain ⟨c, hc, lc⟩ : ∃ c, p256 (ti x / 256 / 256) = c ∧ c ≤ 8 := ⟨_, rfl, p256_le _⟩
  obtain ⟨d, hd, ld⟩ : ∃ d, p256 (ti x / 256 / 256 / 256) = d ∧ d ≤ 8 := ⟨_, rfl, p256_le _⟩
  rw [dg256_4, ha, hb, hc, hd] at hC
  rw [ha, hb, hc, hd] at e2
  have sD : ti (sh32 (bcC (bcB (bcA x))) (Int8.ofInt 8).toInt32) = ti (bcC (bcB (bcA x))) / 256 := ti_sh _ (k := 8) (by decide)
  rw [hC, dv_q (show a < 256 by omega)] at sD
  have hD : ti (bcD (bcC (bcB (bcA x)))) = ((a + b) + 256 * (b + c)) + 65536 * ((c + d) + 256 * d) := by
    unfold bcD
    rw [ti_add (by rw [sD, hC]; omega), sD, hC]
    omega
  have sE : ti (sh32 (bcD (bcC (bcB (bcA x)))) (Int8.ofInt 16).toInt32) = ti (bcD (bcC (bcB (bcA x)))) / 65536 := ti_sh _ (k := 16) (by decide)
  rw [hD, dv_q (show (a + b) + 256 * (b + c) < 65536 by omega)] at sE
  have hE : ti (bcE (bcD (bcC (bcB (bcA x))))) = (a + (b + (c + d))) + 64 * (4 * ((b + c + d) + 256 * ((c + d) + 256 * d))) := by
    unfold bcE
    rw [ti_add (by rw [sE, hD]; omega), sE, hD]
    omega
  have hF : ti (bcE (bcD (bcC (bcB (bcA x))))) % 64 = pcN 32 (ti x) := by
    rw [hE, dv_r (show a + (b + (c + d)) < 64 by omega), e2]
  unfold bc32
  rw [ti_63, hF]
theorem c1_ct (x : Int32) : ∀ k, k ≤ 32 → c1S x k = nI (ctN (fun i => (ti x).testBit i) k)
  | 0, _ => rfl
  | k + 1, hk => by
    show c1S x k + ((x >>> (nI k &&& 31)) &&& Int32.ofInt 1) = nI (ctN (fun i => (ti x).testBit i) k + (if (ti x).testBit k = true then 1 else 0))
    rw [c1_ct x k (by omega), lvB_01 (show k < 32 by omega)]
    have e : lvB x k ↔ (ti x).testBit k = true := lvB_iff (by omega)
    by_cases z : lvB x k
    · rw [if_pos z, if_pos (e.mp z)]
      exact nI_1 _
    · rw [if_neg z, if_neg fun w => z (e.mpr w), Nat.add_zero]
      exact Int32.add_zero _
theorem bc_14 {x : Int32} (h : ∀ i, i < 32 → lvB x i → i < 14) : bc32 x = c1S x 14 := by
  have q := pc_ct (ti x) 32 0
  rw [Nat.pow_zero, Nat.div_one, show ctN (fun i => (ti x).testBit i) 0 = 0 from rfl, Nat.zero_add, Nat.zero_add] at q
  have p := ctN_pad (P := fun i => (ti x).testBit i) (a := 14) 18 fun j h1 h2 => by
    show (ti x).testBit j = false
    cases z : (ti x).testBit j
    · rfl
    · have := h j (by omega) ((lvB_iff (show j < 32 by omega)).mpr z)
      omega
  rw [bc32_eq, q, c1_ct x 14 (by decide), ← p]
