/-! both sides count the same lives -/
theorem i99_int : i99.toInt = 99 := by decide
theorem c1000_int : c1000.toInt = 1000 := by decide
/-- what stands in a cell of lives by a year -/
def SIM (n : Nat) (ag : Nat → Int32) (Y : Nat) (x : CX) (s : LV) : Prop :=
  (∀ i, i < 14 → (lvB x.1.1 i ↔ ¬ s.1 i = i99 ∧ s.2.1 i = i99)) ∧ (∀ i, i < 14 → (lvB x.1.2.1 i ↔ ¬ s.2.2.1 i = i99)) ∧ (∀ i, i < 4 → (lvB x.1.2.2 i ↔ ¬ s.2.2.2 i = i99)) ∧ (∀ i, i < 14 → x.2.2.1 i = if s.2.1 i = i99 then c1000 else s.2.1 i) ∧ (∀ i, i < 14 → x.2.1 i = if i < n then - ag i else if s.1 i = i99 then c1000 else s.1 i) ∧ (∀ i, i < 14 → lvIn Y (s.1 i)) ∧ (∀ i, i < 14 → lvIn Y (s.2.1 i)) ∧ (∀ i, i < 14 → lvIn Y (s.2.2.1 i)) ∧ (∀ i, i < 4 → lvIn Y (s.2.2.2 i)) ∧ ∀ i, i < 14 → s.1 i = i99 → s.2.1 i = i99
theorem nI_ne99 {Y : Nat} (h : Y ≤ 40) : ¬ nI Y = i99 := fun e => by
  have q := congrArg Int32.toInt e
  rw [nI_toInt (by omega), i99_int] at q
  omega
theorem lvIn_now {Y : Nat} (h : Y ≤ 40) : lvIn Y (nI Y) := Or.inr (by rw [nI_toInt (by omega)]; omega)
theorem upd_all {P : Int32 → Prop} {N : Nat} {f : Nat → Int32} (h : ∀ i, i < N → P (f i)) {k : Nat} {x : Int32} (hx : P x) : ∀ i, i < N → P (upd f k x i) := fun i hi => by
  by_cases e : i = k
  · rw [e, upd_at]; exact hx
  · rw [upd_ne e]; exact h i hi
theorem sim_c {n : Nat} {ag : Nat → Int32} {Y : Nat} (hY : Y ≤ 40) (hn : n ≤ 8) {x : CX} {s : LV} (hs : SIM n ag Y x s) {f : Nat → Int32} {k : Nat} (hk : k < 6) (hw : 0 ≤ (f (116 + k)).toInt ∧ (f (116 + k)).toInt ≤ 13) (hw3 : f (110 + k) = Int32.ofInt 3 → (f (116 + k)).toInt ≤ 3) (hy : f (122 + k) = nI Y) (h8 : s.1 (8 + k) = i99) : SIM n ag Y (coC (f (110 + k)) (f (116 + k)) (nI Y) k x) (lvC f k s) := by
  obtain ⟨s1, s2, s3, s4, s5, b1, b2, b3, b4, s0⟩ := hs
  obtain ⟨ew, lw⟩ := i32_nI hw.1 hw.2
  have ewn : (f (116 + k)).toNatClampNeg = (f (116 + k)).toInt.toNat := rfl
  obtain ⟨⟨an, wn, dn⟩, bi, dt, ch⟩ := x
  obtain ⟨be, de, we, dd⟩ := s
  dsimp only at s1 s2 s3 s4 s5 b1 b2 b3 b4 s0 h8
  unfold coC lvC
  dsimp only
  rw [hy]
  by_cases k3 : f (110 + k) = Int32.ofInt 3
  · have l3 := hw3 k3
    rw [if_pos k3, if_pos k3]
    generalize (f (116 + k)).toNatClampNeg = w at ew lw ewn ⊢
    rw [ew]
    refine ⟨s1, s2, fun i hi => ?_, s4, s5, b1, b2, b3, ?_, s0⟩
    · dsimp only
      rw [lvB_or (by omega) (by omega), s3 i hi]
      by_cases e : i = w
      · subst e
        rw [upd_at]
        by_cases h9 : dd i = i99
        · rw [if_pos h9]
          exact ⟨fun _ => nI_ne99 hY, fun _ => Or.inr rfl⟩
        · rw [if_neg h9]
          exact ⟨fun _ => h9, fun _ => Or.inr rfl⟩
      · rw [upd_ne e]
        exact ⟨fun q => q.resolve_right e, Or.inl⟩
    · refine upd_all b4 ?_
      by_cases h9 : dd w = i99
      · rw [if_pos h9]; exact lvIn_now hY
      · rw [if_neg h9]; exact b4 w (by omega)
  · rw [if_neg k3, if_neg k3]
    generalize (f (116 + k)).toNatClampNeg = w at ew lw ewn ⊢
    have w14 : w < 14 := by omega
    rw [ew]
    have key : (nI Y < be w ∨ ¬ de w = i99) ↔ ¬ lvB an w := by
      rw [s1 w w14]
      constructor
      · rintro (q | q) ⟨z1, z2⟩
        · rcases b1 w w14 with e | ⟨-, e⟩
          · exact z1 e
          · have q := Int32.lt_iff_toInt_lt.mp q
            rw [nI_toInt (by omega)] at q
            omega
        · exact q z2
      · intro q
        by_cases h9 : be w = i99
        · refine Or.inl (Int32.lt_iff_toInt_lt.mpr ?_)
          rw [h9, nI_toInt (by omega), i99_int]
          omega
        · exact Or.inr (fun z => q ⟨h9, z⟩)
    have ka : (an >>> (nI w &&& 31)) &&& Int32.ofInt 1 = 0 ↔ ¬ lvB an w := by
      rw [lvB_01 (by omega)]
      by_cases q : lvB an w
      · rw [if_pos q]
        exact ⟨fun z => absurd z (by decide), fun z => absurd q z⟩
      · rw [if_neg q]
        exact ⟨fun _ => q, fun _ => rfl⟩
    by_cases hA : lvB an w
    · have hA2 := (s1 w w14).mp hA
      rw [if_neg (fun q => ka.mp q hA), if_neg (fun q => key.mp q hA)]
      have e0 : (f (110 + k) = 0) = (f (110 + k) = Int32.ofInt 0) := rfl
      by_cases k0 : f (110 + k) = Int32.ofInt 0
      · rw [if_pos (show f (110 + k) = 0 from k0), if_pos k0]
        refine ⟨fun i hi => ?_, s2, s3, s4, fun i hi => ?_, upd_all b1 (lvIn_now hY), b2, b3, b4, fun i hi hx => ?_⟩
        · dsimp only
          rw [lvB_or (by omega) (by omega), s1 i hi]
          by_cases e : i = 8 + k
          · rw [e, upd_at]
            exact ⟨fun _ => ⟨nI_ne99 hY, s0 (8 + k) (by omega) h8⟩, fun _ => Or.inr rfl⟩
          · rw [upd_ne e]
            exact ⟨fun q => q.resolve_right e, Or.inl⟩
        · show upd bi (8 + k) (nI Y) i = if i < n then - ag i else if upd be (8 + k) (nI Y) i = i99 then c1000 else upd be (8 + k) (nI Y) i
          by_cases e : i = 8 + k
          · rw [e, upd_at, upd_at, if_neg (by omega), if_neg (nI_ne99 hY)]
          · rw [upd_ne e, upd_ne e]
            exact s5 i hi
        · by_cases e : i = 8 + k
          · rw [e]; exact s0 (8 + k) (by omega) h8
          · have hx : upd be (8 + k) (nI Y) i = i99 := hx
            rw [upd_ne e] at hx
            exact s0 i hi hx
      · rw [if_neg (show ¬ f (110 + k) = 0 from k0), if_neg k0]
        by_cases k1 : f (110 + k) = Int32.ofInt 1
        · rw [if_pos k1, if_pos k1]
          refine ⟨fun i hi => ?_, s2, s3, fun i hi => ?_, s5, b1, upd_all b2 (lvIn_now hY), b3, b4, fun i hi hx => ?_⟩
          · dsimp only
            rw [lvB_not (by omega) (by omega), s1 i hi]
            by_cases e : i = w
            · subst e
              rw [upd_at]
              exact ⟨fun q => absurd rfl q.2, fun q => absurd q.2 (nI_ne99 hY)⟩
            · rw [upd_ne e]
              exact ⟨fun q => q.1, fun q => ⟨q, e⟩⟩
          · show upd dt w (nI Y) i = if upd de w (nI Y) i = i99 then c1000 else upd de w (nI Y) i
            by_cases e : i = w
            · rw [e, upd_at, upd_at, if_neg (nI_ne99 hY)]
            · rw [upd_ne e, upd_ne e]
              exact s4 i hi
          · by_cases e : i = w
            · rw [e] at hx
              exact absurd hx hA2.1
            · show upd de w (nI Y) i = i99
              rw [upd_ne e]
              exact s0 i hi hx
        · rw [if_neg k1, if_neg k1]
          refine ⟨s1, fun i hi => ?_, s3, s4, s5, b1, b2, ?_, b4, s0⟩
          · dsimp only
            rw [lvB_or (by omega) (by omega), s2 i hi]
            by_cases e : i = w
            · subst e
              rw [upd_at]
              by_cases h9 : we i = i99
              · rw [if_pos h9]
                exact ⟨fun _ => nI_ne99 hY, fun _ => Or.inr rfl⟩
              · rw [if_neg h9]
                exact ⟨fun _ => h9, fun _ => Or.inr rfl⟩
            · rw [upd_ne e]
              exact ⟨fun q => q.resolve_right e, Or.inl⟩
          · refine upd_all b3 ?_
            by_cases h9 : we w = i99
            · rw [if_pos h9]; exact lvIn_now hY
            · rw [if_neg h9]; exact b3 w w14
    · rw [if_pos (ka.mpr hA), if_pos (key.mpr hA)]
      exact ⟨s1, s2, s3, s4, s5, b1, b2, b3, b4, s0⟩
