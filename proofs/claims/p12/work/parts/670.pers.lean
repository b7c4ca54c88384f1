/-! persons of both sides: what they have in common, and what keeps it -/
theorem prs_eq {f g : Nat → Int32} (h : ∀ j, j < 490 → g j = f j) (hs : prs f) : prs g := by
  refine ⟨fun m hm => ?_, fun i hi => ⟨?_, ?_⟩⟩
  · unfold prF
    rw [h _ (by omega), h _ (by omega)]
    exact hs.1 m hm
  · unfold prF
    rw [h _ (by omega), h _ (by omega)]
    exact (hs.2 i hi).1
  · unfold prF
    rw [h _ (by omega), h _ (by omega)]
    exact (hs.2 i hi).2
theorem rd538 {ws : AWr} {h h1 : XH} (hF : AFr w_W ws h h1) (hs : ∀ w ∈ ws, ¬ w.1 = 67) (b : Nat) : rd h1 538 b = rd h 538 b := hF 538 b (by decide) fun w hw hc => hs w hw (hc.1.trans ((w_W1 538).trans w_rg_538))
theorem pcode_eq {n : Nat} {f g : Nat → Int32} (hn : n ≤ 8) (h : ∀ i, i < n → f i = g i) (a p : Int32) : pcode n f a p = pcode n g a p := by
  unfold pcode
  by_cases h1 : ¬ p = Int32.ofInt (-1) ∧ ¬ (0 ≤ p ∧ p < nI n)
  · rw [if_pos h1, if_pos h1]
  · rw [if_neg h1, if_neg h1]
    by_cases hp : p = Int32.ofInt (-1)
    · rw [if_neg (show ¬ (¬ p = Int32.ofInt (-1) ∧ f p.toNatClampNeg ≤ a) from fun q => q.1 hp), if_neg (show ¬ (¬ p = Int32.ofInt (-1) ∧ g p.toNatClampNeg ≤ a) from fun q => q.1 hp)]
    · have hb : 0 ≤ p ∧ p < nI n := Classical.byContradiction fun q => h1 ⟨hp, q⟩
      have e0 : (0 : Int32).toInt = 0 := by decide
      have e1 : (0 : Int32).toInt ≤ p.toInt := Int32.le_iff_toInt_le.mp hb.1
      have e2 : p.toInt < (nI n).toInt := Int32.lt_iff_toInt_lt.mp hb.2
      rw [nI_toInt (by omega)] at e2
      have e : f p.toNatClampNeg = g p.toNatClampNeg := h _ (by show p.toInt.toNat < n; omega)
      rw [e]
theorem pcode_lt {n : Nat} {f : Nat → Int32} {a p : Int32} (h : pcode n f a p = 0) : n < 8 := by
  unfold pcode at h
  split at h
  · exact absurd h (by decide)
  · split at h
    · exact absurd h (by decide)
    · split at h
      · exact absurd h (by decide)
      · split at h
        · exact absurd h (by decide)
        · omega
