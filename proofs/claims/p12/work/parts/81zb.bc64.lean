/-! the library counts the bits of 64 -/
abbrev sh64 (x : Int64) (s : Int32) : Int64 := (x.toUInt64 >>> (s.toInt64.toUInt64 &&& Int64.toUInt64 63)).toInt64
def lcA (x : Int64) : Int64 := x - (sh64 x (Int32.ofInt 1) &&& Int64.ofNat 6148914691236517205)
def lcB (x : Int64) : Int64 := (x &&& Int64.ofNat 3689348814741910323) + (sh64 x (Int32.ofInt 2) &&& Int64.ofNat 3689348814741910323)
def lcC (x : Int64) : Int64 := (x + sh64 x (Int32.ofInt 4)) &&& Int64.ofNat 1085102592571150095
def lcD (x : Int64) : Int64 := x + sh64 x (Int8.ofInt 8).toInt32
def lcE (x : Int64) : Int64 := x + sh64 x (Int8.ofInt 16).toInt32
def lcF (x : Int64) : Int64 := x + sh64 x (Int8.ofInt 32).toInt32
def bc64 (x : Int64) : Int32 := (lcF (lcE (lcD (lcC (lcB (lcA x)))))).toInt32 &&& (Int8.ofInt 127).toInt32
set_option maxRecDepth 100000 in
theorem k_bc64 (d : Nat) (h : XH) (x : Int64) : XCall xM (d + 1) 184 [.long x] h (some (.int (bc64 x))) h := by
  refine XCall.of (M := xm_J13_bitCount_95d88) rfl (Nat.le_of_ble_eq_true rfl) ?_
  refine XGo.go 8 rfl ?_
  show XGo _ _ (10, [some (.long (lcA x)), none], [], _) _ _
  refine XGo.go 10 rfl ?_
  show XGo _ _ (24, [some (.long (lcB (lcA x))), none], [], _) _ _
  refine XGo.go 8 rfl ?_
  show XGo _ _ (34, [some (.long (lcC (lcB (lcA x)))), none], [], _) _ _
  refine XGo.go 6 rfl ?_
  show XGo _ _ (41, [some (.long (lcD (lcC (lcB (lcA x))))), none], [], _) _ _
  refine XGo.go 6 rfl ?_
  show XGo _ _ (48, [some (.long (lcE (lcD (lcC (lcB (lcA x)))))), none], [], _) _ _
  refine XGo.go 6 rfl ?_
  show XGo _ _ (55, [some (.long (lcF (lcE (lcD (lcC (lcB (lcA x))))))), none], [], _) _ _
  refine XGo.go 4 rfl ?_
  exact XGo.iret _ rfl rfl .int rfl rfl
/-! as numbers -/
abbrev tn (x : Int64) : Nat := x.toBitVec.toNat
theorem tn_lt (x : Int64) : tn x < 2 ^ 64 := x.toBitVec.isLt
theorem tn_sh (x : Int64) {s : Int32} {k : Nat} (hs : (s.toInt64.toUInt64 &&& Int64.toUInt64 63).toNat % 64 = k) : tn (sh64 x s) = tn x / 2 ^ k := by
  show (x.toUInt64 >>> (s.toInt64.toUInt64 &&& Int64.toUInt64 63)).toNat = x.toBitVec.toNat / 2 ^ k
  exact (UInt64.toNat_shiftRight _ _).trans (by rw [hs]; exact Nat.shiftRight_eq_div_pow _ _)
theorem tn_and (x : Int64) {n : Nat} (hn : n < 2 ^ 64) : tn (x &&& Int64.ofNat n) = tn x &&& n := by
  show (x &&& Int64.ofNat n).toBitVec.toNat = _
  rw [Int64.toBitVec_and, BitVec.toNat_and, show (Int64.ofNat n).toBitVec = BitVec.ofNat 64 n from rfl, BitVec.toNat_ofNat, Nat.mod_eq_of_lt hn]
theorem tn_add {x y : Int64} (h : tn x + tn y < 2 ^ 64) : tn (x + y) = tn x + tn y := by
  show (x + y).toBitVec.toNat = _
  rw [Int64.toBitVec_add, BitVec.toNat_add, Nat.mod_eq_of_lt h]
theorem tn_sub {x y : Int64} (h : tn y ≤ tn x) : tn (x - y) = tn x - tn y := by
  have h0 : y.toBitVec.toNat ≤ x.toBitVec.toNat := h
  have h1 : x.toBitVec.toNat < 2 ^ 64 := x.toBitVec.isLt
  have h2 : y.toBitVec.toNat < 2 ^ 64 := y.toBitVec.isLt
  show (x - y).toBitVec.toNat = x.toBitVec.toNat - y.toBitVec.toNat
  rw [Int64.toBitVec_sub, BitVec.toNat_sub]
  omega
theorem tn_127 (x : Int64) : x.toInt32 &&& (Int8.ofInt 127).toInt32 = nI (tn x % 128) := by
  refine Int32.toBitVec_inj.mp (BitVec.eq_of_toNat_eq ?_)
  rw [Int32.toBitVec_and, BitVec.toNat_and, Int64.toBitVec_toInt32, BitVec.signExtend_eq_setWidth_of_le _ (by decide), BitVec.toNat_setWidth, show ((Int8.ofInt 127).toInt32).toBitVec.toNat = 2 ^ 7 - 1 by decide, Nat.and_two_pow_sub_one_eq_mod]
  show x.toBitVec.toNat % 2 ^ 32 % 2 ^ 7 = (BitVec.ofNat 32 (tn x % 128)).toNat
  rw [BitVec.toNat_ofNat]
  show x.toBitVec.toNat % 2 ^ 32 % 2 ^ 7 = x.toBitVec.toNat % 128 % 2 ^ 32
  omega
/-! blocks of digits -/
/-- v bits a block, of them the lowest w -/
def nM (w v : Nat) : Nat → Nat
  | 0 => 0
  | n + 1 => (2 ^ w - 1) + 2 ^ v * nM w v n
theorem nM_and {w v : Nat} (hw : w ≤ v) (x n : Nat) : x &&& nM w v (n + 1) = x % 2 ^ w + 2 ^ v * ((x / 2 ^ v) &&& nM w v n) := by
  have h0 : 0 < 2 ^ v := Nat.two_pow_pos v
  have hl : 2 ^ w - 1 < 2 ^ v := by
    have := Nat.pow_le_pow_right (n := 2) (by decide) hw
    have := Nat.two_pow_pos w
    omega
  have e1 : nM w v (n + 1) % 2 ^ v = 2 ^ w - 1 := by
    show ((2 ^ w - 1) + 2 ^ v * nM w v n) % 2 ^ v = _
    rw [Nat.add_mul_mod_self_left, Nat.mod_eq_of_lt hl]
  have e2 : nM w v (n + 1) / 2 ^ v = nM w v n := by
    show ((2 ^ w - 1) + 2 ^ v * nM w v n) / 2 ^ v = _
    rw [Nat.add_mul_div_left _ _ h0, Nat.div_eq_of_lt hl, Nat.zero_add]
  have a1 : (x &&& nM w v (n + 1)) % 2 ^ v = x % 2 ^ w := by
    rw [Nat.and_mod_two_pow, e1, Nat.and_two_pow_sub_one_eq_mod, Nat.mod_mod_of_dvd _ (Nat.pow_dvd_pow 2 hw)]
  have a2 : (x &&& nM w v (n + 1)) / 2 ^ v = (x / 2 ^ v) &&& nM w v n := by
    rw [Nat.and_div_two_pow, e2]
  have := Nat.div_add_mod (x &&& nM w v (n + 1)) (2 ^ v)
  rw [a1, a2] at this
  exact this.symm.trans (Nat.add_comm _ _)
/-- how many of 2, 4, 8 bits -/
def p4 (x : Nat) : Nat := x % 4 - x / 2 % 2
def p16 (x : Nat) : Nat := p4 x + p4 (x / 4)
def p256 (x : Nat) : Nat := p16 x + p16 (x / 16)
theorem p4_le (x : Nat) : p4 x ≤ 2 := by unfold p4; omega
theorem p16_le (x : Nat) : p16 x ≤ 4 := by
  have := p4_le x
  have := p4_le (x / 4)
  unfold p16
  omega
theorem p256_le (x : Nat) : p256 x ≤ 8 := by
  have := p16_le x
  have := p16_le (x / 16)
  unfold p256
  omega
/-- digits of base K, each g of what stands there -/
def dg (K : Nat) (g : Nat → Nat) : Nat → Nat → Nat
  | 0, _ => 0
  | n + 1, x => g x + K * dg K g n (x / K)
theorem st_A : ∀ (n x : Nat), x < 4 ^ n → x - (x / 2 &&& nM 1 2 n) = dg 4 p4 n x
  | 0, x, h => by
    have : x = 0 := by rw [Nat.pow_zero] at h; omega
    subst this
    rfl
  | n + 1, x, h => by
    have ih := st_A n (x / 4) (by rw [Nat.pow_succ] at h; omega)
    have e := nM_and (w := 1) (v := 2) (by decide) (x / 2) n
    rw [show (2 : Nat) ^ 1 = 2 from rfl, show (2 : Nat) ^ 2 = 4 from rfl, show x / 2 / 4 = x / 4 / 2 by omega] at e
    have le : x / 4 / 2 &&& nM 1 2 n ≤ x / 4 / 2 := Nat.and_le_left
    show _ = p4 x + 4 * dg 4 p4 n (x / 4)
    rw [e, ← ih]
    unfold p4
    generalize x / 4 / 2 &&& nM 1 2 n = t at le ⊢
    omega
theorem st_B : ∀ (n x : Nat), (dg 4 p4 (2 * n) x &&& nM 2 4 n) + (dg 4 p4 (2 * n) x / 4 &&& nM 2 4 n) = dg 16 p16 n x
  | 0, x => by
    show (_ &&& 0) + (_ &&& 0) = 0
    rw [Nat.and_zero, Nat.and_zero]
  | n + 1, x => by
    have ih := st_B n (x / 16)
    have ey : dg 4 p4 (2 * (n + 1)) x = p4 x + 4 * (p4 (x / 4) + 4 * dg 4 p4 (2 * n) (x / 16)) := by
      rw [show 2 * (n + 1) = 2 * n + 1 + 1 by omega]
      show p4 x + 4 * (p4 (x / 4) + 4 * dg 4 p4 (2 * n) (x / 4 / 4)) = _
      rw [show x / 4 / 4 = x / 16 by omega]
    have l1 := p4_le x
    have l2 := p4_le (x / 4)
    show _ = p16 x + 16 * dg 16 p16 n (x / 16)
    rw [← ih, ey, nM_and (by decide), nM_and (by decide)]
    rw [show (2 : Nat) ^ 2 = 4 from rfl, show (2 : Nat) ^ 4 = 16 from rfl]
    unfold p16
    generalize dg 4 p4 (2 * n) (x / 16) = z
    generalize p4 x = a at l1 ⊢
    generalize p4 (x / 4) = b at l2 ⊢
    rw [show (a + 4 * (b + 4 * z)) / 16 = z by omega, show (a + 4 * (b + 4 * z)) / 4 / 16 = z / 4 by omega]
    generalize z &&& nM 2 4 n = s
    generalize z / 4 &&& nM 2 4 n = t
    omega
theorem dv_q {r K q : Nat} (h : r < K) : (r + K * q) / K = q := by
  rw [Nat.add_mul_div_left _ _ (by omega), Nat.div_eq_of_lt h, Nat.zero_add]
theorem dv_r {r K q : Nat} (h : r < K) : (r + K * q) % K = r := by
  rw [Nat.add_mul_mod_self_left, Nat.mod_eq_of_lt h]
theorem dg16_le : ∀ (n x : Nat), dg 16 p16 n x % 16 ≤ 4
  | 0, _ => Nat.zero_le 4
  | n + 1, x => by
    have := p16_le x
    show (p16 x + 16 * dg 16 p16 n (x / 16)) % 16 ≤ 4
    omega
theorem st_C : ∀ (n x : Nat), (dg 16 p16 (2 * n) x + dg 16 p16 (2 * n) x / 16) &&& nM 4 8 n = dg 256 p256 n x
  | 0, x => Nat.and_zero _
  | n + 1, x => by
    have ih := st_C n (x / 256)
    have ey : dg 16 p16 (2 * (n + 1)) x = p16 x + 16 * (p16 (x / 16) + 16 * dg 16 p16 (2 * n) (x / 256)) := by
      rw [show 2 * (n + 1) = 2 * n + 1 + 1 by omega]
      show p16 x + 16 * (p16 (x / 16) + 16 * dg 16 p16 (2 * n) (x / 16 / 16)) = _
      rw [show x / 16 / 16 = x / 256 by omega]
    have l1 := p16_le x
    have l2 := p16_le (x / 16)
    have l3 := dg16_le (2 * n) (x / 256)
    show _ = p256 x + 256 * dg 256 p256 n (x / 256)
    rw [← ih, ey, nM_and (by decide)]
    rw [show (2 : Nat) ^ 4 = 16 from rfl, show (2 : Nat) ^ 8 = 256 from rfl]
    unfold p256
    generalize dg 16 p16 (2 * n) (x / 256) = z at l3 ⊢
    generalize p16 x = a at l1 ⊢
    generalize p16 (x / 16) = b at l2 ⊢
    have hz := Nat.div_add_mod z 16
    generalize z / 16 = u at hz ⊢
    generalize z % 16 = v at hz l3
    rw [dv_q (show a < 16 by omega)]
    have e1 : a + 16 * (b + 16 * z) + (b + 16 * z) = (a + b) + 16 * (b + 16 * z + z) := by omega
    have e2 : a + 16 * (b + 16 * z) + (b + 16 * z) = (a + b + 16 * b + 16 * v) + 256 * (z + u) := by omega
    have r1 : (a + 16 * (b + 16 * z) + (b + 16 * z)) % 16 = a + b := by rw [e1, dv_r (by omega)]
    have r2 : (a + 16 * (b + 16 * z) + (b + 16 * z)) / 256 = z + u := by rw [e2, dv_q (by omega)]
    rw [r1, r2]
theorem dg256_8 (x : Nat) : dg 256 p256 8 x = p256 x + 256 * (p256 (x / 256) + 256 * (p256 (x / 256 / 256) + 256 * (p256 (x / 256 / 256 / 256) + 256 * (p256 (x / 256 / 256 / 256 / 256) + 256 * (p256 (x / 256 / 256 / 256 / 256 / 256) + 256 * (p256 (x / 256 / 256 / 256 / 256 / 256 / 256) + 256 * (p256 (x / 256 / 256 / 256 / 256 / 256 / 256 / 256)))))))) := by
  show p256 x + 256 * (p256 (x / 256) + 256 * (p256 (x / 256 / 256) + 256 * (p256 (x / 256 / 256 / 256) + 256 * (p256 (x / 256 / 256 / 256 / 256) + 256 * (p256 (x / 256 / 256 / 256 / 256 / 256) + 256 * (p256 (x / 256 / 256 / 256 / 256 / 256 / 256) + 256 * (p256 (x / 256 / 256 / 256 / 256 / 256 / 256 / 256) + 256 * 0))))))) = _
  rw [Nat.mul_zero, Nat.add_zero]
/-- how many of the lowest bits -/
def pcN : Nat → Nat → Nat
  | 0, _ => 0
  | n + 1, x => x % 2 + pcN n (x / 2)
theorem p4_bits (x : Nat) : p4 x = x % 2 + x / 2 % 2 := by unfold p4; omega
theorem dd2 (y : Nat) : y / 2 / 2 = y / 4 := by omega
theorem dd4 (y : Nat) : y / 4 / 4 = y / 16 := by omega
theorem dd16 (y : Nat) : y / 16 / 16 = y / 256 := by omega
theorem pc_8 (n x : Nat) : pcN (n + 8) x = p256 x + pcN n (x / 256) := by
  show x % 2 + (x / 2 % 2 + (x / 2 / 2 % 2 + (x / 2 / 2 / 2 % 2 + (x / 2 / 2 / 2 / 2 % 2 + (x / 2 / 2 / 2 / 2 / 2 % 2 + (x / 2 / 2 / 2 / 2 / 2 / 2 % 2 + (x / 2 / 2 / 2 / 2 / 2 / 2 / 2 % 2 + pcN n (x / 2 / 2 / 2 / 2 / 2 / 2 / 2 / 2)))))))) = _
  unfold p256 p16
  simp only [p4_bits, dd2, dd4, dd16, Nat.add_assoc]
theorem pc_64 (x : Nat) : pcN 64 x = p256 x + (p256 (x / 256) + (p256 (x / 256 / 256) + (p256 (x / 256 / 256 / 256) + (p256 (x / 256 / 256 / 256 / 256) + (p256 (x / 256 / 256 / 256 / 256 / 256) + (p256 (x / 256 / 256 / 256 / 256 / 256 / 256) + p256 (x / 256 / 256 / 256 / 256 / 256 / 256 / 256))))))) := by
  refine (pc_8 56 (x)).trans (congrArg (fun t => p256 x + t) ?_)
  refine (pc_8 48 (x / 256)).trans (congrArg (fun t => p256 (x / 256) + t) ?_)
  refine (pc_8 40 (x / 256 / 256)).trans (congrArg (fun t => p256 (x / 256 / 256) + t) ?_)
  refine (pc_8 32 (x / 256 / 256 / 256)).trans (congrArg (fun t => p256 (x / 256 / 256 / 256) + t) ?_)
  refine (pc_8 24 (x / 256 / 256 / 256 / 256)).trans (congrArg (fun t => p256 (x / 256 / 256 / 256 / 256) + t) ?_)
  refine (pc_8 16 (x / 256 / 256 / 256 / 256 / 256)).trans (congrArg (fun t => p256 (x / 256 / 256 / 256 / 256 / 256) + t) ?_)
  refine (pc_8 8 (x / 256 / 256 / 256 / 256 / 256 / 256)).trans (congrArg (fun t => p256 (x / 256 / 256 / 256 / 256 / 256 / 256) + t) ?_)
  exact (pc_8 0 (x / 256 / 256 / 256 / 256 / 256 / 256 / 256)).trans (Nat.add_zero _)
theorem tn_A (x : Int64) : tn (lcA x) = dg 4 p4 32 (tn x) := by
  have hx := tn_lt x
  have e : tn (sh64 x (Int32.ofInt 1) &&& Int64.ofNat 6148914691236517205) = (tn x / 2 &&& nM 1 2 32) := by
    have t := tn_sh x (s := Int32.ofInt 1) (k := 1) (by decide)
    rw [Nat.pow_one] at t
    rw [tn_and _ (by decide), t, show nM 1 2 32 = 6148914691236517205 by decide +kernel]
  have le : tn x / 2 &&& nM 1 2 32 ≤ tn x / 2 := Nat.and_le_left
  unfold lcA
  rw [tn_sub (by rw [e]; omega), e]
  exact st_A 32 (tn x) (by rw [show (4 : Nat) ^ 32 = 2 ^ 64 by decide +kernel]; exact hx)
theorem tn_B {x : Int64} {z : Nat} (h : tn x = dg 4 p4 32 z) : tn (lcB x) = dg 16 p16 16 z := by
  have l3 : nM 2 4 16 = 3689348814741910323 := by decide +kernel
  have e1 : tn (x &&& Int64.ofNat 3689348814741910323) = (tn x &&& nM 2 4 16) := by
    rw [tn_and _ (by decide), l3]
  have e2 : tn (sh64 x (Int32.ofInt 2) &&& Int64.ofNat 3689348814741910323) = (tn x / 4 &&& nM 2 4 16) := by
    have t := tn_sh x (s := Int32.ofInt 2) (k := 2) (by decide)
    rw [show (2 : Nat) ^ 2 = 4 from rfl] at t
    rw [tn_and _ (by decide), t, l3]
  have l1 : tn x &&& nM 2 4 16 ≤ nM 2 4 16 := Nat.and_le_right
  have l2 : tn x / 4 &&& nM 2 4 16 ≤ nM 2 4 16 := Nat.and_le_right
  unfold lcB
  have q := st_B 16 z
  rw [show 2 * 16 = 32 from rfl] at q
  rw [tn_add (by rw [e1, e2]; omega), e1, e2, h]
  exact q
theorem tn_C {x : Int64} {z : Nat} (h : tn x = dg 16 p16 16 z) (hb : tn x + tn x / 16 < 2 ^ 64) : tn (lcC x) = dg 256 p256 8 z := by
  have e2 : tn (sh64 x (Int32.ofInt 4)) = tn x / 16 := tn_sh x (k := 4) (by decide)
  have q := st_C 8 z
  rw [show nM 4 8 8 = 1085102592571150095 by decide +kernel, show 2 * 8 = 16 from rfl] at q
  unfold lcC
  rw [tn_and _ (by decide), tn_add (by rw [e2]; exact hb), e2, h]
  exact q
theorem dg16_lt : ∀ (n x : Nat), 15 * dg 16 p16 n x + 4 ≤ 4 * 16 ^ n
  | 0, _ => by
    show 15 * 0 + 4 ≤ 4 * 16 ^ 0
    decide
  | n + 1, x => by
    have := p16_le x
    have := dg16_lt n (x / 16)
    show 15 * (p16 x + 16 * dg 16 p16 n (x / 16)) + 4 ≤ 4 * 16 ^ (n + 1)
    rw [Nat.pow_succ]
    omega
theorem bc64_eq (x : Int64) : bc64 x = nI (pcN 64 (tn x)) := by
  have hA := tn_A x
  have hB := tn_B hA
  have hl := dg16_lt 16 (tn x)
  rw [show (16 : Nat) ^ 16 = 18446744073709551616 by decide +kernel] at hl
  have hC := tn_C hB (by rw [hB]; omega)
  have e2 := pc_64 (tn x)
  obtain ⟨a, ha, la⟩ : ∃ a, p256 (tn x) = a ∧ a ≤ 8 := ⟨_, rfl, p256_le _⟩
  obtain ⟨b, hb, lb⟩ : ∃ b, p256 (tn x / 256) = b ∧ b ≤ 8 := ⟨_, rfl, p256_le _⟩
  obtain ⟨c, hc, lc⟩ : ∃ c, p256 (tn x / 256 / 256) = c ∧ c ≤ 8 := ⟨_, rfl, p256_le _⟩
  obtain ⟨d, hd, ld⟩ : ∃ d, p256 (tn x / 256 / 256 / 256) = d ∧ d ≤ 8 := ⟨_, rfl, p256_le _⟩
  obtain ⟨e, he, le⟩ : ∃ e, p256 (tn x / 256 / 256 / 256 / 256) = e ∧ e ≤ 8 := ⟨_, rfl, p256_le _⟩
  obtain ⟨f, hf, lf⟩ : ∃ f, p256 (tn x / 256 / 256 / 256 / 256 / 256) = f ∧ f ≤ 8 := ⟨_, rfl, p256_le _⟩
  obtain ⟨g, hg, lg⟩ : ∃ g, p256 (tn x / 256 / 256 / 256 / 256 / 256 / 256) = g ∧ g ≤ 8 := ⟨_, rfl, p256_le _⟩
  obtain ⟨i, hi, li⟩ : ∃ i, p256 (tn x / 256 / 256 / 256 / 256 / 256 / 256 / 256) = i ∧ i ≤ 8 := ⟨_, rfl, p256_le _⟩
  rw [dg256_8, ha, hb, hc, hd, he, hf, hg, hi] at hC
  rw [ha, hb, hc, hd, he, hf, hg, hi] at e2
  have sD : tn (sh64 (lcC (lcB (lcA x))) (Int8.ofInt 8).toInt32) = tn (lcC (lcB (lcA x))) / 256 := tn_sh _ (k := 8) (by decide)
  rw [hC, dv_q (show a < 256 by omega)] at sD
  have hD : tn (lcD (lcC (lcB (lcA x)))) = ((a + b) + 256 * (b + c)) + 65536 * ((c + d) + 256 * ((d + e) + 256 * ((e + f) + 256 * ((f + g) + 256 * ((g + i) + 256 * i))))) := by
    unfold lcD
    rw [tn_add (by rw [sD, hC]; omega), sD, hC]
    omega
  have sE : tn (sh64 (lcD (lcC (lcB (lcA x)))) (Int8.ofInt 16).toInt32) = tn (lcD (lcC (lcB (lcA x)))) / 65536 := tn_sh _ (k := 16) (by decide)
  rw [hD, dv_q (show (a + b) + 256 * (b + c) < 65536 by omega)] at sE
  have hE : tn (lcE (lcD (lcC (lcB (lcA x))))) = ((a + b + c + d) + 256 * ((b + c + d + e) + 256 * ((c + d + e + f) + 256 * (d + e + f + g)))) + 4294967296 * ((e + f + g + i) + 256 * ((f + g + i) + 256 * ((g + i) + 256 * i))) := by
    unfold lcE
    rw [tn_add (by rw [sE, hD]; omega), sE, hD]
    omega
  have sF : tn (sh64 (lcE (lcD (lcC (lcB (lcA x))))) (Int8.ofInt 32).toInt32) = tn (lcE (lcD (lcC (lcB (lcA x))))) / 4294967296 := tn_sh _ (k := 32) (by decide)
  rw [hE, dv_q (show (a + b + c + d) + 256 * ((b + c + d + e) + 256 * ((c + d + e + f) + 256 * (d + e + f + g))) < 4294967296 by omega)] at sF
  have hF : tn (lcF (lcE (lcD (lcC (lcB (lcA x)))))) = (a + (b + (c + (d + (e + (f + (g + i))))))) + 128 * (2 * ((b + c + d + e) + 256 * ((c + d + e + f) + 256 * (d + e + f + g))) + 33554432 * ((e + f + g + i) + 256 * ((f + g + i) + 256 * ((g + i) + 256 * i))) + 2 * ((f + g + i) + 256 * ((g + i) + 256 * i))) := by
    unfold lcF
    rw [tn_add (by rw [sF, hE]; omega), sF, hE]
    omega
  have hF : tn (lcF (lcE (lcD (lcC (lcB (lcA x)))))) % 128 = pcN 64 (tn x) := by
    rw [hF, dv_r (show a + (b + (c + (d + (e + (f + (g + i)))))) < 128 by omega), e2]
  unfold bc64
  rw [tn_127, hF]
/-- how many of the first k -/
def ctN (P : Nat → Bool) : Nat → Nat
  | 0 => 0
  | k + 1 => ctN P k + (if P k = true then 1 else 0)
theorem ctN_le (P : Nat → Bool) : ∀ k, ctN P k ≤ k
  | 0 => Nat.le_refl 0
  | k + 1 => by
    have := ctN_le P k
    unfold ctN
    split <;> omega
theorem ctN_c {P Q : Nat → Bool} : ∀ k, (∀ j, j < k → P j = Q j) → ctN P k = ctN Q k
  | 0, _ => rfl
  | k + 1, h => by
    unfold ctN
    rw [ctN_c k fun j hj => h j (by omega), h k (by omega)]
theorem ctN_pad {P : Nat → Bool} {a : Nat} : ∀ q, (∀ j, a ≤ j → j < a + q → P j = false) → ctN P (a + q) = ctN P a
  | 0, _ => rfl
  | q + 1, h => by
    show ctN P (a + q) + (if P (a + q) = true then 1 else 0) = _
    rw [h (a + q) (by omega) (by omega), if_neg (by decide), ctN_pad q fun j h1 h2 => h j h1 (by omega), Nat.add_zero]
/-- the lowest first: bits from j on -/
theorem pc_ct (x : Nat) : ∀ (n j : Nat), ctN (fun i => x.testBit i) j + pcN n (x / 2 ^ j) = ctN (fun i => x.testBit i) (j + n)
  | 0, j => rfl
  | n + 1, j => by
    have ih := pc_ct x n (j + 1)
    rw [show j + (n + 1) = j + 1 + n by omega, ← ih]
    show _ + (x / 2 ^ j % 2 + pcN n (x / 2 ^ j / 2)) = ctN (fun i => x.testBit i) j + (if x.testBit j = true then 1 else 0) + pcN n (x / 2 ^ (j + 1))
    rw [Nat.div_div_eq_div_mul, ← Nat.pow_succ, Nat.testBit_eq_decide_div_mod_eq]
    have l2 : x / 2 ^ j % 2 < 2 := Nat.mod_lt _ (by decide)
    generalize pcN n (x / 2 ^ (j + 1)) = t
    generalize x / 2 ^ j % 2 = r at l2 ⊢
    by_cases e : r = 1
    · rw [decide_eq_true e, if_pos rfl]
      omega
    · rw [decide_eq_false e, if_neg (by decide)]
      omega
theorem bc64_ls (P : Nat → Bool) {k : Nat} (hk : k ≤ 64) : bc64 (lsB P k) = nI (ctN P k) := by
  have q := pc_ct (tn (lsB P k)) 64 0
  rw [Nat.pow_zero, Nat.div_one, show ctN (fun i => (tn (lsB P k)).testBit i) 0 = 0 from rfl, Nat.zero_add, Nat.zero_add] at q
  rw [bc64_eq, q, ctN_c (P := fun i => (tn (lsB P k)).testBit i) (Q := fun j => decide (j < k) && P j) 64 fun j hj => lsB_bit P k hk j hj]
  have p := ctN_pad (P := fun j => decide (j < k) && P j) (a := k) (64 - k) fun j h1 _ => by
    show (decide (j < k) && P j) = false
    rw [decide_eq_false (by omega), Bool.false_and]
  rw [show k + (64 - k) = 64 by omega] at p
  rw [p, ctN_c (Q := P) k fun j hj => by
    show (decide (j < k) && P j) = P j
    rw [decide_eq_true hj, Bool.true_and]]
