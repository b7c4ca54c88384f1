/-! how many are in a set -/
/-- as the library counts the bits of 32 -/
def bcA (x : Int32) : Int32 := x - ((x.toUInt32 >>> ((Int32.ofInt 1).toUInt32 &&& Int32.toUInt32 31)).toInt32 &&& Int32.ofNat 1431655765)
def bcB (x : Int32) : Int32 := (x &&& Int32.ofNat 858993459) + ((x.toUInt32 >>> ((Int32.ofInt 2).toUInt32 &&& Int32.toUInt32 31)).toInt32 &&& Int32.ofNat 858993459)
def bcC (x : Int32) : Int32 := (x + (x.toUInt32 >>> ((Int32.ofInt 4).toUInt32 &&& Int32.toUInt32 31)).toInt32) &&& Int32.ofNat 252645135
def bcD (x : Int32) : Int32 := x + (x.toUInt32 >>> (((Int8.ofInt 8).toInt32).toUInt32 &&& Int32.toUInt32 31)).toInt32
def bcE (x : Int32) : Int32 := x + (x.toUInt32 >>> (((Int8.ofInt 16).toInt32).toUInt32 &&& Int32.toUInt32 31)).toInt32
def bc32 (x : Int32) : Int32 := bcE (bcD (bcC (bcB (bcA x)))) &&& (Int8.ofInt 63).toInt32
/-- as the model does -/
def c1S (x : Int32) : Nat → Int32
  | 0 => Int32.ofInt 0
  | k + 1 => c1S x k + ((x >>> (nI k &&& 31)) &&& Int32.ofInt 1)
set_option maxRecDepth 100000 in
theorem k_bc32 (d : Nat) (h : XH) (x : Int32) : XCall xM (d + 1) 183 [.int x] h (some (.int (bc32 x))) h := by
  refine XCall.of (M := xm_J6_bitCount_0f7a4) rfl (Nat.le_of_ble_eq_true rfl) ?_
  refine XGo.go 8 rfl ?_
  show XGo _ _ (10, [some (.int (bcA x))], [], _) _ _
  refine XGo.go 10 rfl ?_
  show XGo _ _ (24, [some (.int (bcB (bcA x)))], [], _) _ _
  refine XGo.go 8 rfl ?_
  show XGo _ _ (34, [some (.int (bcC (bcB (bcA x))))], [], _) _ _
  refine XGo.go 6 rfl ?_
  show XGo _ _ (41, [some (.int (bcD (bcC (bcB (bcA x)))))], [], _) _ _
  refine XGo.go 6 rfl ?_
  show XGo _ _ (48, [some (.int (bcE (bcD (bcC (bcB (bcA x))))))], [], _) _ _
  refine XGo.go 3 rfl ?_
  exact XGo.iret _ rfl rfl .int rfl rfl
set_option maxRecDepth 100000 in
theorem c1_l (d : Nat) {h : XH} {x : Int32} : ∀ (q k : Nat), k + q = 14 → XGo d xm_X7_count1 (4, [some (.int x), some (.int (c1S x k)), some (.int (nI k))], [], h) (some (.int (c1S x 14))) h
  | 0, k, hk => by
    have hk : k = 14 := by omega
    subst hk
    refine XGo.go 3 rfl ?_
    refine XGo.ifp (by decide) ?_
    refine XGo.go 1 rfl ?_
    exact XGo.iret _ rfl rfl .int rfl rfl
  | q + 1, k, hk => by
    have nx := c1_l d (h := h) (x := x) q (k + 1) (by omega)
    rw [← show nI k + Int32.ofInt 1 = nI (k + 1) from nI_1 k] at nx
    refine XGo.go 3 rfl ?_
    refine XGo.ifn (fun z => absurd ((xnI_ge (m := 14) (by decide) (by omega)).mp z) (by omega)) ?_
    exact XGo.go 10 rfl nx
  termination_by q => q
theorem k_c1 (d : Nat) (h : XH) (x : Int32) : XCall xM (d + 1) 112 [.int x] h (some (.int (c1S x 14))) h :=
  XCall.of (M := xm_X7_count1) rfl (Nat.le_of_ble_eq_true rfl) (XGo.go 4 rfl (c1_l d 14 0 rfl))
theorem bc_64 : ∀ k : Fin 64, bc32 (nI k.val) = c1S (nI k.val) 14 := by decide +kernel
