/-! lives: the children, and the bits above -/
/-- no bits above; the children -/
def K2 (n m : Nat) (f : Nat → Int32) (x : CX) (s : LV) : Prop := (∀ i, 14 ≤ i → i < 32 → ¬ lvB x.1.1 i) ∧ ∀ p, p < 14 → ∀ i, i < 32 → (lvB (x.2.2.2 p) i ↔ chB n m f s p i)
theorem k2_c {n m : Nat} {ag : Nat → Int32} {Y : Nat} (hY : Y ≤ 40) (hn : n ≤ 8) (hm : m ≤ 6) {x : CX} {s : LV} {f : Nat → Int32} (hs : SIM n ag Y x s) (hk2 : K2 n m f x s) {k : Nat} (hk : k < m) (hw : 0 ≤ (f (116 + k)).toInt ∧ (f (116 + k)).toInt ≤ 13) (hw3 : f (110 + k) = Int32.ofInt 3 → (f (116 + k)).toInt ≤ 3) (hy : f (122 + k) = nI Y) (h8 : s.1 (8 + k) = i99) : K2 n m f (coC (f (110 + k)) (f (116 + k)) (nI Y) k x) (lvC f k s) := by
  obtain ⟨s1, s2, s3, s4, s5, b1, b2, b3, b4, s0⟩ := hs
  obtain ⟨u1, u2⟩ := hk2
  obtain ⟨ew, lw⟩ := i32_nI hw.1 hw.2
  obtain ⟨⟨an, wn, dn⟩, bi, dt, ch⟩ := x
  obtain ⟨be, de, we, dd⟩ := s
  dsimp only at s1 s2 s3 s4 s5 b1 b2 b3 b4 s0 h8 u1 u2
  have same : ∀ {a : Int32 × Int32 × Int32} {g1 g2 : Nat → Int32} {d2 w2 e2 : Nat → Int32}, (∀ i, 14 ≤ i → i < 32 → ¬ lvB a.1 i) → K2 n m f (a, g1, g2, ch) (be, d2, w2, e2) := fun ha => ⟨ha, u2⟩
  unfold coC lvC
  dsimp only
  rw [hy]
  by_cases k3 : f (110 + k) = Int32.ofInt 3
  · rw [if_pos k3, if_pos k3]
    exact same u1
  · rw [if_neg k3, if_neg k3]
    have ewk : f (116 + k) = nI (f (116 + k)).toNatClampNeg := ew
    generalize (f (116 + k)).toNatClampNeg = w at ew lw ewk ⊢
    have w14 : w < 14 := by omega
    rw [ew]
    have key : (nI Y < be w ∨ ¬ de w = i99) ↔ ¬ lvB an w := by
      rw [s1 w w14]
      constructor
      · rintro (q | q) ⟨z1, z2⟩
        · rcases b1 w w14 with e | ⟨-, e⟩
          · exact z1 e
          · have q := Int32.lt_iff_toInt_lt.mp q
            rw [nI_toInt (by omega)] at q
            omega
        · exact q z2
      · intro q
        by_cases h9 : be w = i99
        · refine Or.inl (Int32.lt_iff_toInt_lt.mpr ?_)
          rw [h9, nI_toInt (by omega), i99_int]
          omega
        · exact Or.inr (fun z => q ⟨h9, z⟩)
    have ka : (an >>> (nI w &&& 31)) &&& Int32.ofInt 1 = 0 ↔ ¬ lvB an w := by
      rw [lvB_01 (by omega)]
      by_cases q : lvB an w
      · rw [if_pos q]
        exact ⟨fun z => absurd z (by decide), fun z => absurd q z⟩
      · rw [if_neg q]
        exact ⟨fun _ => q, fun _ => rfl⟩
    by_cases hA : lvB an w
    · rw [if_neg (fun q => ka.mp q hA), if_neg (fun q => key.mp q hA)]
      by_cases k0 : f (110 + k) = Int32.ofInt 0
      · rw [if_pos (show f (110 + k) = 0 from k0), if_pos k0]
        refine ⟨fun i h1 h2 => ?_, fun p hp i hi => ?_⟩
        · dsimp only
          rw [lvB_or h2 (by omega)]
          rintro (q | q)
          · exact u1 i h1 h2 q
          · omega
        · show lvB (coK ch (nI w) (8 + k) p) i ↔ chB n m f (upd be (8 + k) (nI Y), de, we, dd) p i
          have cw : ¬ (nI w < 0 ∨ 14 ≤ (nI w).toNatClampNeg) := by
            rw [xnI_nat (by omega)]
            exact fun q => q.elim (xnI_lt0 (by omega)) (by omega)
          unfold coK
          rw [if_neg cw, xnI_nat (by omega)]
          have hk8 : 8 + k - 8 = k := by omega
          have old := u2 p hp i hi
          unfold chB at old ⊢
          dsimp only at old ⊢
          by_cases ei : i = 8 + k
          · subst ei
            rw [upd_at, hk8]
            rw [hk8, h8] at old
            have no : ¬ lvB (ch p) (8 + k) := fun q => (old.mp q).elim (fun z => by omega) (fun z => z.2.2.1 rfl)
            by_cases ep : p = w
            · subst ep
              rw [upd_at, lvB_or hi (by omega)]
              exact ⟨fun _ => Or.inr ⟨by omega, by omega, nI_ne99 hY, k0, ewk⟩, fun _ => Or.inr rfl⟩
            · rw [upd_ne ep]
              refine ⟨fun q => absurd q no, fun q => q.elim (fun z => by omega) fun z => ?_⟩
              have := nI_inj (by omega) (by omega) (ewk.symm.trans z.2.2.2.2)
              exact absurd this.symm ep
          · rw [upd_ne ei]
            by_cases ep : p = w
            · subst ep
              rw [upd_at, lvB_or hi (by omega), old]
              exact ⟨fun q => q.resolve_right ei, Or.inl⟩
            · rw [upd_ne ep]
              exact old
      · rw [if_neg (show ¬ f (110 + k) = 0 from k0), if_neg k0]
        by_cases k1 : f (110 + k) = Int32.ofInt 1
        · rw [if_pos k1, if_pos k1]
          refine same fun i h1 h2 => ?_
          dsimp only
          rw [lvB_not h2 (by omega)]
          exact fun q => u1 i h1 h2 q.1
        · rw [if_neg k1, if_neg k1]
          exact same u1
    · rw [if_pos (ka.mpr hA), if_pos (key.mpr hA)]
      exact ⟨u1, u2⟩
theorem k2_m {n : Nat} {ag : Nat → Int32} {Y : Nat} (hY : Y ≤ 40) (hn : n ≤ 8) {f ki wh ye : Nat → Int32} {m : Nat} (hm : m ≤ 6) (hf : mbOK f m) (e1 : ∀ k, k < m → ki k = f (110 + k)) (e2 : ∀ k, k < m → wh k = f (116 + k)) (e3 : ∀ k, k < m → ye k = f (122 + k)) (set : Int32) {x : CX} {s : LV} (hs : SIM n ag Y x s) (hF : FUT f m Y 0 s) (h2 : K2 n m f x s) : ∀ k, k ≤ m → K2 n m f (coM ki wh ye set Y k x) (lvM f set Y k s)
  | 0, _ => h2
  | k + 1, hk => by
    obtain ⟨i1, i2⟩ := sim_m hY hn hm hf e1 e2 e3 set hs hF k (by omega)
    have i3 := k2_m hY hn hm hf e1 e2 e3 set hs hF h2 k (by omega)
    unfold coM lvM
    rw [e1 k (by omega), e2 k (by omega), e3 k (by omega)]
    by_cases c : lvB set k ∧ f (122 + k) = nI Y
    · rw [if_pos c, if_pos c]
      have ey : (f (122 + k)).toInt = (Y : Int) := by rw [c.2, nI_toInt (by omega)]
      exact k2_c hY hn hm i1 i3 (by omega) (hf k (by omega)).1 (hf k (by omega)).2 c.2 (i2 k (by omega) (Or.inr ⟨ey, Nat.le_refl k⟩))
    · rw [if_neg c, if_neg c]
      exact i3
theorem k2_y {n : Nat} {ag : Nat → Int32} (hn : n ≤ 8) {f ki wh ye : Nat → Int32} {m : Nat} (hm : m ≤ 6) (hf : mbOK f m) (hy : yrOK f m) (e1 : ∀ k, k < m → ki k = f (110 + k)) (e2 : ∀ k, k < m → wh k = f (116 + k)) (e3 : ∀ k, k < m → ye k = f (122 + k)) (set : Int32) {x : CX} {s : LV} (hs : SIM n ag 0 x s) (hF : FUT f m 1 0 s) (h2 : K2 n m f x s) : ∀ Y, Y ≤ 40 → K2 n m f (coY ki wh ye set m (Y + 1) x) (lvY f set m Y s)
  | 0, _ => by
    show K2 n m f (coM ki wh ye set 0 m x) s
    rw [coM_0 hy e3 set x m (Nat.le_refl m)]
    exact h2
  | Y + 1, hY => by
    obtain ⟨i1, i2⟩ := sim_y hn hm hf hy e1 e2 e3 set hs hF Y (by omega)
    exact k2_m (Y := Y + 1) hY hn hm hf e1 e2 e3 set i1.up i2 (k2_y hn hm hf hy e1 e2 e3 set hs hF h2 Y (by omega)) m (Nat.le_refl m)
theorem lvB_low32 : ∀ (n : Fin 9) (i : Fin 18), ¬ lvB ((Int32.ofInt 1 <<< (nI n.val &&& 31)) - Int32.ofInt 1) (14 + i.val) := by decide +kernel
/-- at first -/
theorem k2_0 {n m : Nat} (hn : n ≤ 8) {f pa : Nat → Int32} {x : CX} (h1 : x.1 = ((Int32.ofInt 1 <<< (nI n &&& 31)) - Int32.ofInt 1, Int32.ofInt 0, Int32.ofInt 0)) (h2 : ∀ p, p < 14 → ∀ t, t < 32 → (lvB (x.2.2.2 p) t ↔ t < n ∧ pa t = nI p)) (hp : ∀ j, j < n → pa j = f (100 + j)) : K2 n m f x (lv0 n) := by
  refine ⟨fun i a b => ?_, fun p hp2 i hi => ?_⟩
  · rw [h1]
    have := lvB_low32 ⟨n, by omega⟩ ⟨i - 14, by omega⟩
    rw [show 14 + (i - 14) = i by omega] at this
    exact this
  · rw [h2 p hp2 i hi]
    unfold chB
    constructor
    · rintro ⟨q1, q2⟩
      exact Or.inl ⟨q1, by rw [← hp i q1]; exact q2⟩
    · rintro (⟨q1, q2⟩ | ⟨q1, q2, q3, -⟩)
      · exact ⟨q1, by rw [hp i q1]; exact q2⟩
      · exact absurd (if_neg (by omega)) q3
