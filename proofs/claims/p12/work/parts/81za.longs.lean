/-! sets of courses: the bits of a long; the one of the fewest; how many there are -/
def lsB (P : Nat → Bool) : Nat → Int64
  | 0 => Int64.ofNat 0
  | k + 1 => if P k = true then lsB P k ||| (Int64.ofNat 1 <<< ((nI k).toInt64 &&& 63)) else lsB P k
theorem nL_63 : ∀ i : Fin 64, ((nI i.val).toInt64 &&& 63).toBitVec.smod 64 = BitVec.ofNat 64 i.val := by decide +kernel
theorem nL_shl : ∀ i : Fin 64, (Int64.ofNat 1 <<< ((nI i.val).toInt64 &&& 63)).toBitVec = BitVec.twoPow 64 i.val := by decide +kernel
theorem lsB_bit (P : Nat → Bool) : ∀ k, k ≤ 64 → ∀ i, i < 64 → (lsB P k).toBitVec.getLsbD i = (decide (i < k) && P i)
  | 0, _, i, _ => by
    rw [decide_eq_false (Nat.not_lt_zero i), Bool.false_and]
    exact BitVec.getLsbD_zero
  | k + 1, hk, i, hi => by
    have ih := lsB_bit P k (by omega) i hi
    have hlt : ¬ i = k → decide (i < k + 1) = decide (i < k) := fun h => decide_eq_decide.mpr (by omega)
    unfold lsB
    cases e : P k
    · rw [if_neg (by decide), ih]
      by_cases h : i = k
      · subst h
        rw [e, Bool.and_false, Bool.and_false]
      · rw [hlt h]
    · rw [if_pos rfl, Int64.toBitVec_or, BitVec.getLsbD_or, ih, nL_shl ⟨k, by omega⟩, BitVec.getLsbD_twoPow]
      by_cases h : i = k
      · subst h
        rw [e, decide_eq_true hi, decide_eq_true (show i < i + 1 by omega), decide_eq_true (rfl : i = i)]
        simp
      · rw [hlt h, decide_eq_false (fun q : k = i => h q.symm), Bool.and_false, Bool.or_false]
theorem lg_bit (x : Int64) {i : Nat} (hi : i < 64) : (x >>> ((nI i).toInt64 &&& 63)) &&& Int64.ofNat 1 = if x.toBitVec.getLsbD i = true then Int64.ofNat 1 else Int64.ofNat 0 := by
  have e : (x.toBitVec.sshiftRight' (BitVec.ofNat 64 i)).getLsbD 0 = x.toBitVec.getLsbD i := by
    rw [BitVec.getLsbD_sshiftRight', show (BitVec.ofNat 64 i).toNat = i by rw [BitVec.toNat_ofNat]; omega]
    simp [hi]
  rw [← Int64.toBitVec_inj, Int64.toBitVec_and, Int64.toBitVec_shiftRight, nL_63 ⟨i, hi⟩, show (Int64.ofNat 1).toBitVec = 1#64 from rfl, BitVec.and_one_eq_setWidth_ofBool_getLsbD, e]
  cases x.toBitVec.getLsbD i <;> decide
theorem lsB_shr (P : Nat → Bool) {k i : Nat} (hk : k ≤ 64) (hi : i < 64) : (lsB P k >>> ((nI i).toInt64 &&& 63)) &&& Int64.ofNat 1 = if (decide (i < k) && P i) = true then Int64.ofNat 1 else Int64.ofNat 0 := by
  rw [lg_bit _ hi, lsB_bit P k hk i hi]
theorem lsB_t {P : Nat → Bool} {k : Nat} (e : P k = true) : lsB P (k + 1) = lsB P k ||| (Int64.ofNat 1 <<< ((nI k).toInt64 &&& 63)) := if_pos e
theorem lsB_f {P : Nat → Bool} {k : Nat} (e : P k = false) : lsB P (k + 1) = lsB P k := if_neg (by rw [e]; decide)
theorem lsB_0 {P : Nat → Bool} {k : Nat} (hk : k ≤ 64) : lsB P k = Int64.ofNat 0 ↔ ∀ j, j < k → P j = false := by
  constructor
  · intro h j hj
    have b := lsB_bit P k hk j (by omega)
    rw [h, decide_eq_true hj, Bool.true_and] at b
    rw [← b]
    exact BitVec.getLsbD_zero
  · intro h
    refine Int64.toBitVec_inj.mp (BitVec.eq_of_getLsbD_eq fun i hi => ?_)
    rw [lsB_bit P k hk i hi]
    by_cases z : i < k
    · rw [h i z, Bool.and_false]
      exact BitVec.getLsbD_zero.symm
    · rw [decide_eq_false z, Bool.false_and]
      exact BitVec.getLsbD_zero.symm
/-- the course of the fewest, of several the least -/
def fwS (P : Nat → Bool) : Nat → Int32
  | 0 => m5
  | k + 1 => if P k = true ∧ (fwS P k = m5 ∨ c1S (nI k) 14 < c1S (fwS P k) 14) then nI k else fwS P k
theorem fwS_in (P : Nat → Bool) : ∀ k, fwS P k = m5 ∨ ∃ j, j < k ∧ fwS P k = nI j ∧ P j = true
  | 0 => Or.inl rfl
  | k + 1 => by
    unfold fwS
    split
    · rename_i h
      exact Or.inr ⟨k, by omega, rfl, h.1⟩
    · rcases fwS_in P k with h | ⟨j, h1, h2, h3⟩
      · exact Or.inl h
      · exact Or.inr ⟨j, by omega, h2, h3⟩
theorem fwS_f {P : Nat → Bool} {k : Nat} (e : P k = false) : fwS P (k + 1) = fwS P k := if_neg fun h => by rw [e] at h; exact absurd h.1 (by decide)
theorem fwS_c {P Q : Nat → Bool} : ∀ k, (∀ j, j < k → P j = Q j) → fwS P k = fwS Q k
  | 0, _ => rfl
  | k + 1, h => by
    unfold fwS
    rw [fwS_c k fun j hj => h j (by omega), h k (by omega)]
theorem fwS_pad {P : Nat → Bool} {a : Nat} : ∀ q, (∀ j, a ≤ j → j < a + q → P j = false) → fwS P (a + q) = fwS P a
  | 0, _ => rfl
  | q + 1, h => by
    rw [show a + (q + 1) = a + q + 1 by omega, fwS_f (h (a + q) (by omega) (by omega)), fwS_pad q fun j h1 h2 => h j h1 (by omega)]
theorem m5_nI {j : Nat} (hj : j < 64) : ¬ nI j = m5 := by
  have t : ∀ j : Fin 64, ¬ nI j.val = m5 := by decide +kernel
  exact t ⟨j, hj⟩
theorem fwS_5 {P : Nat → Bool} : ∀ k, k ≤ 64 → (fwS P k = m5 ↔ ∀ j, j < k → P j = false)
  | 0, _ => ⟨fun _ j hj => absurd hj (Nat.not_lt_zero j), fun _ => rfl⟩
  | k + 1, hk => by
    have ih := fwS_5 (P := P) k (by omega)
    unfold fwS
    constructor
    · intro h
      split at h
      · exact absurd h (m5_nI (by omega))
      · rename_i z
        intro j hj
        rcases Nat.lt_or_ge j k with q | q
        · exact ih.mp h j q
        · have e : j = k := by omega
          subst e
          cases w : P j
          · rfl
          · exact absurd ⟨w, Or.inl h⟩ z
    · intro h
      rw [if_neg fun z => by rw [h k (by omega)] at z; exact absurd z.1 (by decide)]
      exact ih.mpr fun j hj => h j (by omega)
section FW
variable {h : XH}
abbrev fwL (x : Int64) (a b : Int32) (l4 : Option Value) : XL := [some (.long x), none, some (.int a), some (.int b), l4]
set_option maxRecDepth 100000 in
theorem fw_l (d : Nat) (x : Int64) (P : Nat → Bool) (hx : ∀ i, i < 64 → (x >>> ((nI i).toInt64 &&& 63)) &&& Int64.ofNat 1 = if P i = true then Int64.ofNat 1 else Int64.ofNat 0) : ∀ (q k : Nat) (l4 : Option Value), k + q = 64 → XGo (d + 1) xm_X6_fewest (5, fwL x (fwS P k) (nI k) l4, [], h) (some (.int (fwS P 64))) h
  | 0, k, l4, hk => by
    have hk : k = 64 := by omega
    subst hk
    refine XGo.go 3 rfl ?_
    refine XGo.ifp (by decide) ?_
    refine XGo.go 1 rfl ?_
    exact XGo.iret _ rfl rfl .int rfl rfl
  | q + 1, k, l4, hk => by
    have k64 : k < 64 := by omega
    have nx := fun b => fw_l d x P hx q (k + 1) (some (.int b)) (by omega)
    have hb := hx k k64
    refine XGo.go 3 rfl ?_
    refine XGo.ifn (fun z => absurd ((xnI_ge (m := 64) (by decide) (by omega)).mp z) (by omega)) ?_
    refine XGo.go 8 rfl ?_
    cases e : P k
    · rw [e, if_neg (by decide)] at hb
      refine XGo.ifn (by show ¬ lg_cmp ((x >>> ((nI k).toInt64 &&& 63)) &&& Int64.ofNat 1) (Int64.ofNat 1) = 0; rw [hb]; decide) ?_
      refine XGo.go 4 rfl ?_
      refine XGo.ifp (by decide) ?_
      have nx := nx (Int32.ofInt 0)
      rw [fwS_f e] at nx
      unfold fwL at nx
      rw [← show nI k + Int32.ofInt 1 = nI (k + 1) from nI_1 k] at nx
      exact XGo.go 2 rfl nx
    · rw [e, if_pos rfl] at hb
      refine XGo.ifp (by show lg_cmp ((x >>> ((nI k).toInt64 &&& 63)) &&& Int64.ofNat 1) (Int64.ofNat 1) = 0; rw [hb]; decide) ?_
      refine XGo.go 5 rfl ?_
      refine XGo.ifn (by decide) ?_
      refine XGo.go 3 rfl ?_
      have nx := nx (Int32.ofInt 1)
      have to50 : fwS P (k + 1) = nI k → XGo (d + 1) xm_X6_fewest (50, fwL x (fwS P k) (nI k) (some (.int (Int32.ofInt 1))), [], h) (some (.int (fwS P 64))) h := fun ew => by
        rw [ew] at nx
        unfold fwL at nx
        rw [← show nI k + Int32.ofInt 1 = nI (k + 1) from nI_1 k] at nx
        exact XGo.go 4 rfl nx
      by_cases b5 : fwS P k = m5
      · refine XGo.ifp b5 ?_
        exact to50 (if_pos ⟨e, Or.inl b5⟩)
      · obtain ⟨j, hj, ej, -⟩ := (fwS_in P k).resolve_left b5
        refine XGo.ifn b5 ?_
        refine XGo.go 1 rfl ?_
        refine XGo.call _ rfl xm_J6_bitCount_0f7a4 rfl rfl [.int (nI k)] [] rfl rfl (fun z => absurd rfl z) (Nat.le_of_ble_eq_true rfl) (k_bc32 d h (nI k)) ?_
        refine XGo.go 1 rfl ?_
        refine XGo.call _ rfl xm_J6_bitCount_0f7a4 rfl rfl [.int (fwS P k)] [.int (bc32 (nI k))] rfl rfl (fun z => absurd rfl z) (Nat.le_of_ble_eq_true rfl) (k_bc32 d h (fwS P k)) ?_
        refine XGo.go 1 rfl ?_
        have e1 : bc32 (nI k) = c1S (nI k) 14 := bc_64 ⟨k, k64⟩
        have e2 : bc32 (fwS P k) = c1S (fwS P k) 14 := by
          rw [ej]
          exact bc_64 ⟨j, by omega⟩
        by_cases c : c1S (fwS P k) 14 ≤ c1S (nI k) 14
        · refine XGo.ifp (by show bc32 (fwS P k) ≤ bc32 (nI k); rw [e1, e2]; exact c) ?_
          rw [show fwS P (k + 1) = fwS P k from if_neg fun z => (z.2.elim (fun w => b5 w) fun w => absurd c (Int32.not_le.mpr w))] at nx
          unfold fwL at nx
          rw [← show nI k + Int32.ofInt 1 = nI (k + 1) from nI_1 k] at nx
          exact XGo.go 2 rfl nx
        · refine XGo.ifn (by show ¬ bc32 (fwS P k) ≤ bc32 (nI k); rw [e1, e2]; exact c) ?_
          exact to50 (if_pos ⟨e, Or.inr (Int32.not_le.mp c)⟩)
  termination_by q => q
/-- the class's fewest over a set of the first k courses -/
theorem k_fewest (d : Nat) (P : Nat → Bool) {k : Nat} (hk : k ≤ 64) : XCall xM (d + 2) 95 [.long (lsB P k)] h (some (.int (fwS P k))) h := by
  have e : fwS (fun j => decide (j < k) && P j) 64 = fwS P k := by
    have p := fwS_pad (P := fun j => decide (j < k) && P j) (a := k) (64 - k) fun j h1 _ => by
      show (decide (j < k) && P j) = false
      rw [decide_eq_false (by omega), Bool.false_and]
    rw [show k + (64 - k) = 64 by omega] at p
    rw [p]
    exact fwS_c k fun j hj => by
      show (decide (j < k) && P j) = P j
      rw [decide_eq_true hj, Bool.true_and]
  have q := fw_l (h := h) d (lsB P k) (fun j => decide (j < k) && P j) (fun i hi => lsB_shr P hk hi) 64 0 none rfl
  rw [e] at q
  exact XCall.of (M := xm_X6_fewest) rfl (Nat.le_of_ble_eq_true rfl) (XGo.go 4 rfl q)
end FW
