/-! a course's cells, from the invariant -/
abbrev c63 : Int32 := (Int8.ofInt 63).toInt32
theorem c63_bit : ∀ j : Fin 6, c63.toBitVec.getLsbD j.val = true := by decide +kernel
theorem and63 (set : Int32) : 0 ≤ (set &&& c63).toInt ∧ (set &&& c63).toInt ≤ 63 := by
  have e := i32_nat (set &&& c63)
  have h : (set &&& c63).toBitVec.toNat ≤ 63 := by
    rw [Int32.toBitVec_and, BitVec.toNat_and]
    exact Nat.and_le_right
  split at e <;> omega
theorem lvB_63 {set : Int32} {j : Nat} (hj : j < 6) : lvB set j ↔ lvB (nI (set &&& c63).toNatClampNeg) j := by
  rw [← (i32_nI (and63 set).1 (and63 set).2).1, lvB_iff (by omega), lvB_iff (by omega), Int32.toBitVec_and, BitVec.getLsbD_and, c63_bit ⟨j, hj⟩, Bool.and_true]
theorem lvM_set {f : Nat → Int32} {s1 s2 : Int32} {y : Nat} (h : ∀ j, j < 6 → (lvB s1 j ↔ lvB s2 j)) : ∀ (k : Nat) (s : LV), k ≤ 6 → lvM f s1 y k s = lvM f s2 y k s
  | 0, _, _ => rfl
  | k + 1, s, hk => by
    unfold lvM
    rw [lvM_set h k s (by omega)]
    exact ite_congr (propext (and_congr (h k (by omega)) Iff.rfl)) (fun _ => rfl) (fun _ => rfl)
theorem lvY_set {f : Nat → Int32} {s1 s2 : Int32} {m : Nat} (hm : m ≤ 6) (h : ∀ j, j < 6 → (lvB s1 j ↔ lvB s2 j)) : ∀ (y : Nat) (s : LV), lvY f s1 m y s = lvY f s2 m y s
  | 0, _ => rfl
  | y + 1, s => by
    unfold lvY
    rw [lvY_set hm h y s, lvM_set h m _ hm]
theorem flS_eqv {d1 d2 : Nat → Int32} : ∀ p : Nat, (∀ j, j < p → d1 j = d2 j) → flS d1 p = flS d2 p
  | 0, _ => rfl
  | p + 1, h => by
    unfold flS
    rw [flS_eqv p (fun j hj => h j (by omega)), h p (by omega)]
theorem flR_eqv {d1 d2 : Nat → Int32} {n : Nat} (h : ∀ j, j < n → d1 j = d2 j) : flR d1 n = flR d2 n := by
  unfold flR
  rw [flS_eqv n h]
/-- the world that is now, as a course is learnt from it -/
theorem wk_of {h : XH} (hI : AInv w_W h) (hQ : QW (vw w_W h)) : ∃ (fw : List Value) (n m : Nat) (ag pa ki wh ye : Nat → Int32), WK h fw n m ag pa ki wh ye ∧ n ≤ 8 ∧ m ≤ 6 ∧ ∀ k, k < m → 0 ≤ (wh k).toInt ∧ (wh k).toInt ≤ 13 := by
  obtain ⟨n, m, ⟨hn, hm⟩, q0, q3, -, q4⟩ := hQ
  rw [vw_14 (Or.inl rfl)] at q0
  rw [vw_14 (Or.inr rfl)] at q3
  obtain ⟨fw, h14, -, f3⟩ := w_obj hI (k := 14) (by decide) w_rg_14 (show w_S 14 = (0, 5, 0, w_s14.2.2.2.1, []) from rfl)
  obtain ⟨ag, h15⟩ := w_ints hI (k := 15) (by decide) w_rg_15 (show w_S 15 = (1, 0, 8, [], w_s15.2.2.2.2) from rfl)
  obtain ⟨pa, h16⟩ := w_ints hI (k := 16) (by decide) w_rg_16 (show w_S 16 = (1, 0, 8, [], w_s16.2.2.2.2) from rfl)
  obtain ⟨ki, h17⟩ := w_ints hI (k := 17) (by decide) w_rg_17 (show w_S 17 = (1, 0, 6, [], w_s17.2.2.2.2) from rfl)
  obtain ⟨wh, h18⟩ := w_ints hI (k := 18) (by decide) w_rg_18 (show w_S 18 = (1, 0, 6, [], w_s18.2.2.2.2) from rfl)
  obtain ⟨ye, h19⟩ := w_ints hI (k := 19) (by decide) w_rg_19 (show w_S 19 = (1, 0, 6, [], w_s19.2.2.2.2) from rfl)
  have rf : ∀ (b r : Nat), w_s14.2.2.2.1[b]? = some (avR r) → w_o r = true → w_rg r = r → r < 549 → fw[b]? = some (.ref r) := fun b r e1 e2 e3 e4 => by
    obtain ⟨v, a1, -, a2⟩ := f3 b _ e1
    rw [← w_ref (k0 := 0) e2 e3 e4 a2]
    exact a1
  refine ⟨fw, n, m, ag, pa, ki, wh, ye, ⟨hI.1, h14, ⟨(rd_fld h14).symm.trans q0, rf 1 15 rfl rfl w_rg_15 (by decide), rf 2 16 rfl rfl w_rg_16 (by decide), (rd_fld h14).symm.trans q3, rf 4 17 rfl rfl w_rg_17 (by decide), rf 5 18 rfl rfl w_rg_18 (by decide), rf 6 19 rfl rfl w_rg_19 (by decide)⟩, h15, h16, h17, h18, h19⟩, hn, hm, fun k hk => ?_⟩
  obtain ⟨kd, w, y, -, k2, -, k4, -⟩ := q4 k hk
  rw [vw_wo (by decide) (by decide), rd_ints h18 (by omega)] at k2
  cases k2
  exact k4
theorem int_of {v : Value} {s : AV} (h0 : s.1 = 0) (hg : ga w_W s v) : ∃ x : Int32, v = .int x ∧ s.2.1 ≤ x.toInt ∧ x.toInt ≤ s.2.2.1 := ga_int h0 hg
theorem list12 {fs : List Value} (hl : fs.length = 12) {a0 a1 a2 a3 a4 a5 a6 a7 a8 a9 a10 a11 : Value} (e0 : fs[0]? = some a0) (e1 : fs[1]? = some a1) (e2 : fs[2]? = some a2) (e3 : fs[3]? = some a3) (e4 : fs[4]? = some a4) (e5 : fs[5]? = some a5) (e6 : fs[6]? = some a6) (e7 : fs[7]? = some a7) (e8 : fs[8]? = some a8) (e9 : fs[9]? = some a9) (e10 : fs[10]? = some a10) (e11 : fs[11]? = some a11) : fs = [a0, a1, a2, a3, a4, a5, a6, a7, a8, a9, a10, a11] := by
  refine List.ext_getElem? fun i => ?_
  match i with
  | 0 => exact e0
  | 1 => exact e1
  | 2 => exact e2
  | 3 => exact e3
  | 4 => exact e4
  | 5 => exact e5
  | 6 => exact e6
  | 7 => exact e7
  | 8 => exact e8
  | 9 => exact e9
  | 10 => exact e10
  | 11 => exact e11
  | i + 12 => rw [List.getElem?_eq_none (by omega), List.getElem?_eq_none (by simp)]
/-- a course that stands -/
theorem cr_of {h : XH} (hI : AInv w_W h) (hS : QS (vw w_W h)) {k : Nat} (hk : k < 64) : ∃ (i lt ld : Int32) (x : CX) (al we de : Nat → Int32), (0 ≤ i.toInt ∧ i.toInt ≤ 1) ∧ CR h (88 + 7 * k) i lt ld x ∧ CA h (88 + 7 * k) al we de := by
  obtain ⟨fs, h0, hl, f3⟩ := w_obj hI (k := 88 + 7 * k) (by omega) (w_rg_co0 hk) k58s
  have hl : fs.length = 12 := hl
  have rf : ∀ j, j < 6 → fs[1 + j]? = some (.ref (88 + 7 * k + 1 + j)) := fun j hj => by
    have := (hS k hk).2 j hj
    rw [vw_co0 hk, rd_fld h0] at this
    exact this
  have it : ∀ (b : Nat) (s : AV), w_s58.2.2.2.1[b]? = some s → s.1 = 0 → ∃ x : Int32, fs[b]? = some (.int x) ∧ s.2.1 ≤ x.toInt ∧ x.toInt ≤ s.2.2.1 := fun b s e1 e2 => by
    obtain ⟨v, a1, -, a2⟩ := f3 b s e1
    obtain ⟨x, rfl, e⟩ := ga_int e2 a2
    exact ⟨x, a1, e⟩
  obtain ⟨i, e0, i0⟩ := it 0 _ rfl rfl
  obtain ⟨lt, e7, -⟩ := it 7 _ rfl rfl
  obtain ⟨ld, e8, -⟩ := it 8 _ rfl rfl
  obtain ⟨an, e9, -⟩ := it 9 _ rfl rfl
  obtain ⟨wn, e10, -⟩ := it 10 _ rfl rfl
  obtain ⟨dn, e11, -⟩ := it 11 _ rfl rfl
  have e1 := rf 0 (by decide)
  have e2 := rf 1 (by decide)
  have e3 := rf 2 (by decide)
  have e4 := rf 3 (by decide)
  have e5 := rf 4 (by decide)
  have e6 := rf 5 (by decide)
  have iA : ∀ j, j < 7 → 1 ≤ j → ∀ n, w_S (58 + j) = (1, 0, n, [], [(n, -2147483648, 2147483647)]) → ∃ f : Nat → Int32, h.2.2 (88 + 7 * k + j) = .inr (.inl (0, n, f)) := fun j hj _ n hS => w_ints hI (by omega) (w_rg_co hk hj) hS
  obtain ⟨al, h1⟩ := iA 1 (by decide) (by decide) 41 rfl
  obtain ⟨we, h2⟩ := iA 2 (by decide) (by decide) 41 rfl
  obtain ⟨de, h3⟩ := iA 3 (by decide) (by decide) 41 rfl
  obtain ⟨bi, h4⟩ := iA 4 (by decide) (by decide) 14 rfl
  obtain ⟨dt, h5⟩ := iA 5 (by decide) (by decide) 14 rfl
  obtain ⟨ch, h6⟩ := iA 6 (by decide) (by decide) 14 rfl
  refine ⟨i, lt, ld, ((an, wn, dn), bi, dt, ch), al, we, de, i0, ⟨?_, h4, h5, h6⟩, h1, h2, h3⟩
  rw [h0]
  congr 2
  exact list12 hl e0 e1 e2 e3 e4 e5 e6 e7 e8 e9 e10 e11
