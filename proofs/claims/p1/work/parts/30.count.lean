theorem xsw5 {a : Int32} (h : ¬ (a.toInt < 0 ∨ 5 < a.toInt)) : a = 0 ∨ a = 1 ∨ a = 2 ∨ a = 3 ∨ a = 4 ∨ a = 5 := by
  have e : a.toInt = 0 ∨ a.toInt = 1 ∨ a.toInt = 2 ∨ a.toInt = 3 ∨ a.toInt = 4 ∨ a.toInt = 5 := by omega
  rcases e with e | e | e | e | e | e
  · exact Or.inl (Int32.toInt_inj.mp (by rw [e]; decide))
  · exact Or.inr (Or.inl (Int32.toInt_inj.mp (by rw [e]; decide)))
  · exact Or.inr (Or.inr (Or.inl (Int32.toInt_inj.mp (by rw [e]; decide))))
  · exact Or.inr (Or.inr (Or.inr (Or.inl (Int32.toInt_inj.mp (by rw [e]; decide)))))
  · exact Or.inr (Or.inr (Or.inr (Or.inr (Or.inl (Int32.toInt_inj.mp (by rw [e]; decide))))))
  · exact Or.inr (Or.inr (Or.inr (Or.inr (Or.inr (Int32.toInt_inj.mp (by rw [e]; decide))))))
def a_count (a : Int32) : Int32 := if a.toInt < 0 ∨ 5 < a.toInt then -1 else 0
theorem f_c_count (d : Nat) (g : Nat → XE) (a : Int32) : XCp (d + 2) 88 [.ref 2, .int a] (xh0 g) (some (.int (a_count a))) (xP g) := by
  refine XCp.of (M := xm_X6_count) rfl (Nat.le_of_ble_eq_true rfl) ?_
  refine XGp.go 1 rfl ?_
  by_cases h : a.toInt < 0 ∨ 5 < a.toInt
  · refine XGp.swo 88 rfl h (by decide) (by decide) ?_
    refine XGp.go 1 rfl ?_
    exact XGp.iret _ rfl rfl .int rfl rfl (if_pos h) (xP_0 _)
  · rcases xsw5 h with rfl | rfl | rfl | rfl | rfl | rfl
    all_goals
      refine XGp.go 4 rfl ?_
      exact XGp.iret _ rfl rfl .int rfl rfl (if_neg h) (xP_0 _)
theorem f_m_count (d : Nat) (u g : Nat → XE) (a : Int32) : XCp (d + 2) 182 [.ref 525, .int a] (xhm u g) (some (.int (a_count a))) (fun _ => True) := by
  refine XCp.of (M := xm_X7_count) rfl (Nat.le_of_ble_eq_true rfl) ?_
  refine XGp.go 1 rfl ?_
  by_cases h : a.toInt < 0 ∨ 5 < a.toInt
  · refine XGp.swo 80 rfl h (by decide) (by decide) ?_
    refine XGp.go 1 rfl ?_
    exact XGp.iret _ rfl rfl .int rfl rfl (if_pos h) trivial
  · rcases xsw5 h with rfl | rfl | rfl | rfl | rfl | rfl
    · refine XGp.go 5 rfl ?_
      exact XGp.iret _ rfl rfl .int rfl rfl (if_neg h) trivial
    · refine XGp.go 5 rfl ?_
      exact XGp.iret _ rfl rfl .int rfl rfl (if_neg h) trivial
    · refine XGp.go 5 rfl ?_
      exact XGp.iret _ rfl rfl .int rfl rfl (if_neg h) trivial
    · refine XGp.go 5 rfl ?_
      exact XGp.iret _ rfl rfl .int rfl rfl (if_neg h) trivial
    · refine XGp.go 5 rfl ?_
      exact XGp.iret _ rfl rfl .int rfl rfl (if_neg h) trivial
    · refine XGp.go 3 rfl ?_
      exact XGp.iret _ rfl rfl .int rfl rfl (if_neg h) trivial
def a_feed (n : Int32) : Int32 := if n < 1 then -2 else if n ≤ 8 then n else -2
theorem xfd8 {n : Int32} (h1 : ¬ n < 1) (h2 : n ≤ 8) : n = 1 ∨ n = 2 ∨ n = 3 ∨ n = 4 ∨ n = 5 ∨ n = 6 ∨ n = 7 ∨ n = 8 := by
  have a1 := Int32.le_iff_toInt_le.mp (Int32.not_lt.mp h1)
  have a2 := Int32.le_iff_toInt_le.mp h2
  have b1 : (1 : Int32).toInt = 1 := by decide
  have b2 : (8 : Int32).toInt = 8 := by decide
  have e : n.toInt = 1 ∨ n.toInt = 2 ∨ n.toInt = 3 ∨ n.toInt = 4 ∨ n.toInt = 5 ∨ n.toInt = 6 ∨ n.toInt = 7 ∨ n.toInt = 8 := by omega
  rcases e with e | e | e | e | e | e | e | e
  · exact Or.inl (Int32.toInt_inj.mp (by rw [e]; decide))
  · exact Or.inr (Or.inl (Int32.toInt_inj.mp (by rw [e]; decide)))
  · exact Or.inr (Or.inr (Or.inl (Int32.toInt_inj.mp (by rw [e]; decide))))
  · exact Or.inr (Or.inr (Or.inr (Or.inl (Int32.toInt_inj.mp (by rw [e]; decide)))))
  · exact Or.inr (Or.inr (Or.inr (Or.inr (Or.inl (Int32.toInt_inj.mp (by rw [e]; decide))))))
  · exact Or.inr (Or.inr (Or.inr (Or.inr (Or.inr (Or.inl (Int32.toInt_inj.mp (by rw [e]; decide)))))))
  · exact Or.inr (Or.inr (Or.inr (Or.inr (Or.inr (Or.inr (Or.inl (Int32.toInt_inj.mp (by rw [e]; decide))))))))
  · exact Or.inr (Or.inr (Or.inr (Or.inr (Or.inr (Or.inr (Or.inr (Int32.toInt_inj.mp (by rw [e]; decide))))))))
theorem f_c_feed (d : Nat) (g : Nat → XE) (w : Int64) (n : Int32) : XCp (d + 5) 65 [.ref 2, .long w, .int n] (xh0 g) (some (.int (a_feed n))) (xP g) := by
  by_cases h1 : n < 1
  · refine XCp.of (M := xm_X6_feed) rfl (Nat.le_of_ble_eq_true rfl) ?_
    refine XGp.go 3 rfl ?_
    refine XGp.ifp h1 ?_
    refine XGp.go 1 rfl ?_
    exact XGp.iret _ rfl rfl .int rfl rfl ((if_pos h1).trans rfl) (xP_0 _)
  · by_cases h2 : n ≤ 8
    · have hv : a_feed n = n := (if_neg h1).trans (if_pos h2)
      rw [hv]
      rcases xfd8 h1 h2 with rfl | rfl | rfl | rfl | rfl | rfl | rfl | rfl
      · exact f_c_feed1 d g w
      · exact f_c_feed2 d g w
      · exact f_c_feed3 d g w
      · exact f_c_feed4 d g w
      · exact f_c_feed5 d g w
      · exact f_c_feed6 d g w
      · exact f_c_feed7 d g w
      · exact f_c_feed8 d g w
    · refine XCp.of (M := xm_X6_feed) rfl (Nat.le_of_ble_eq_true rfl) ?_
      refine XGp.go 3 rfl ?_
      refine XGp.ifn h1 ?_
      refine XGp.go 3 rfl ?_
      refine XGp.ifn h2 ?_
      refine XGp.go 1 rfl ?_
      exact XGp.iret _ rfl rfl .int rfl rfl (((if_neg h1).trans (if_neg h2)).trans rfl) (xP_0 _)
theorem xin_pos {v lo hi : Int32} (h1 : ¬ v < lo) (h2 : v ≤ hi) : xin v lo hi = 1 := by
  unfold xin
  rw [if_neg h1, if_neg (Int32.not_lt.mpr h2)]
theorem xin_lo {v lo hi : Int32} (h1 : v < lo) : xin v lo hi = 0 := if_pos h1
theorem xin_hi {v lo hi : Int32} (h2 : ¬ v ≤ hi) : xin v lo hi = 0 := by
  unfold xin
  by_cases h1 : v < lo
  · rw [if_pos h1]
  · rw [if_neg h1, if_pos (Int32.not_le.mp h2)]
theorem f_m_feed (d : Nat) (u g : Nat → XE) (w : Int64) (n : Int32) : XCp (d + 5) 120 [.ref 525, .long w, .int n] (xhm u g) (some (.int (a_feed n))) (fun _ => True) := by
  have bad : xin n 1 8 = 0 → XCp (d + 5) 120 [.ref 525, .long w, .int n] (xhm u g) (some (.int (-2))) (fun _ => True) := fun e => by
    refine XCp.of (M := xm_X7_feed) rfl (Nat.le_of_ble_eq_true rfl) ?_
    refine XGp.go 3 rfl ?_
    refine XGp.callx [.int _, .int _, .int _] _ _ rfl xm_X7_in rfl rfl rfl rfl (fun q => absurd rfl q) (Nat.le_of_ble_eq_true rfl) (k_in _ _ _ _ _) ?_
    refine XGp.top 0 e ?_
    refine XGp.go 1 rfl ?_
    refine XGp.ifp (by decide) ?_
    refine XGp.go 1 rfl ?_
    exact XGp.iret _ rfl rfl .int rfl rfl rfl trivial
  by_cases h1 : n < 1
  · rw [show a_feed n = -2 from if_pos h1]
    exact bad (xin_lo h1)
  · by_cases h2 : n ≤ 8
    · have hv : a_feed n = n := (if_neg h1).trans (if_pos h2)
      rw [hv]
      rcases xfd8 h1 h2 with rfl | rfl | rfl | rfl | rfl | rfl | rfl | rfl
      · exact f_m_feed1 d u g w
      · exact f_m_feed2 d u g w
      · exact f_m_feed3 d u g w
      · exact f_m_feed4 d u g w
      · exact f_m_feed5 d u g w
      · exact f_m_feed6 d u g w
      · exact f_m_feed7 d u g w
      · exact f_m_feed8 d u g w
    · rw [show a_feed n = -2 from (if_neg h1).trans (if_neg h2)]
      exact bad (xin_hi h2)
/-! the same answers, by either tree -/
theorem xc3 : Int32.ofInt 0 = 0 ∧ Int32.ofInt 1 = 1 ∧ Int32.ofInt 3 = 3 ∧ Int32.ofInt 4 = 4 ∧ (Int8.ofInt 90).toInt32 = 90 ∧ (Int8.ofInt 40).toInt32 = 40 ∧ (Int16.ofInt 16384).toInt32 = 16384 ∧ (Int16.ofInt 16383).toInt32 = 16383 := by decide
theorem xin_ne {v lo hi : Int32} (h1 : ¬ v < lo) (h2 : v ≤ hi) : ¬ xin v lo hi = 0 := by rw [xin_pos h1 h2]; decide
theorem xlt_le {v k k1 : Int32} (h : k.toInt = k1.toInt + 1) : v < k ↔ v ≤ k1 := by
  rw [Int32.lt_iff_toInt_lt, Int32.le_iff_toInt_le]
  omega
theorem a_person (a b : Int32) : ac_person a b = am_person a b := by
  unfold ac_person am_person
  simp only [xc3]
  by_cases h : b = Int32.ofInt (-1)
  · rw [if_pos h, if_pos h]
    by_cases h1 : a < 0
    · rw [if_pos h1, if_pos (xin_lo h1)]
    · rw [if_neg h1]
      by_cases h2 : a ≤ 90
      · have e1 := xin_ne h1 h2; rw [if_pos h2, if_neg e1]
      · rw [if_neg h2, if_pos (xin_hi h2)]
  · rw [if_neg h, if_neg h]
theorem a_row (a : Int32) : ac_row a = am_row a := by
  unfold ac_row am_row
  simp only [xc3]
  by_cases h : a = Int32.ofInt (-1)
  · rw [if_pos h, if_pos h]
  · rw [if_neg h, if_neg h]
    by_cases h1 : a < 0
    · rw [if_pos h1, if_pos (xin_lo h1)]
    · rw [if_neg h1]
      have e := xlt_le (v := a) (k := 16384) (k1 := 16383) (by decide)
      by_cases h2 : a ≤ 16383
      · have e1 := xin_ne h1 h2; rw [if_pos (e.mpr h2), if_neg e1]
      · rw [if_neg (fun q => h2 (e.mp q)), if_pos (xin_hi h2)]
theorem a_maybe (a b c : Int32) : ac_maybe a b c = am_maybe a b c := by
  unfold ac_maybe am_maybe
  simp only [xc3]
  by_cases h1 : a < 0
  · rw [if_pos h1, if_pos (xin_lo h1)]
  · rw [if_neg h1]
    by_cases h2 : a ≤ 3
    · have e1 := xin_ne h1 h2; rw [if_pos h2, if_neg e1]
      by_cases h3 : a = 3
      · rw [if_pos h3, if_pos h3]
        by_cases h4 : b < 0
        · rw [if_pos h4, if_pos (xin_lo h4)]
        · rw [if_neg h4]
          have e := xlt_le (v := b) (k := 4) (k1 := 3) (by decide)
          by_cases h5 : b ≤ 3
          · have e1 := xin_ne h4 h5; rw [if_pos (e.mpr h5), if_neg e1]
            by_cases h6 : c < 1
            · rw [if_pos h6, if_pos (xin_lo h6)]
            · rw [if_neg h6]
              by_cases h7 : c ≤ 40
              · have e1 := xin_ne h6 h7; rw [if_pos h7, if_neg e1]
              · rw [if_neg h7, if_pos (xin_hi h7)]
          · rw [if_neg (fun q => h5 (e.mp q)), if_pos (xin_hi h5)]
      · rw [if_neg h3, if_neg h3]
    · rw [if_neg h2, if_pos (xin_hi h2)]
