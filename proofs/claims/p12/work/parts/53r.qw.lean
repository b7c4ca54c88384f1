/-! the world stays as it must be -/
def CFC : Prop := ∀ h : XH, AInv w_W h → PPr w_W w_P h [] → QS (vw w_W h) → QW (vw w_W h) → ∃ h1 : XH, XCall xM 1 96 [.ref 13] h none h1 ∧ AInv w_W h1 ∧ PInv w_W w_P h1 [] ∧ AFr w_W [(58, 0, 0)] h h1
theorem nI_inj {a b : Nat} (ha : a < 2147483648) (hb : b < 2147483648) (h : nI a = nI b) : a = b := by
  have := congrArg Int32.toInt h
  rw [nI_toInt ha, nI_toInt hb] at this
  omega
theorem int_inj {a b : Int32} (h : some (Value.int a) = some (Value.int b)) : a = b := by
  cases h
  rfl
theorem qw_n {h h1 : XH} (q : QW (vw w_W h)) {n : Nat} (hn : n ≤ 8) (e0 : rd h1 14 0 = some (.int (nI n))) (ea : ∀ j, j < n → ∃ a : Int32, rd h1 15 j = some (.int a) ∧ 0 ≤ a.toInt ∧ a.toInt ≤ 90) (e3 : rd h1 14 3 = rd h 14 3) (e7 : ∀ k, k < 6 → rd h1 17 k = rd h 17 k) (e8 : ∀ k, k < 6 → rd h1 18 k = rd h 18 k) (e9 : ∀ k, k < 6 → rd h1 19 k = rd h 19 k) : QW (vw w_W h1) := by
  obtain ⟨n0, m, ⟨-, hm⟩, -, q3, -, q4⟩ := q
  refine ⟨n, m, ⟨hn, hm⟩, by rw [vw_14 (Or.inl rfl)]; exact e0, ?_, fun j hj => by rw [vw_wo (by decide) (by decide)]; exact ea j hj, fun k hk => ?_⟩
  · rw [vw_14 (Or.inr rfl)] at q3 ⊢
    exact e3.trans q3
  · obtain ⟨kd, w, y, k1, k2, k3, k4⟩ := q4 k hk
    rw [vw_wo (by decide) (by decide)] at k1 k2 k3
    refine ⟨kd, w, y, ?_, ?_, ?_, k4⟩
    · rw [vw_wo (by decide) (by decide)]; exact (e7 k (by omega)).trans k1
    · rw [vw_wo (by decide) (by decide)]; exact (e8 k (by omega)).trans k2
    · rw [vw_wo (by decide) (by decide)]; exact (e9 k (by omega)).trans k3
theorem qw_m {h h1 : XH} (q : QW (vw w_W h)) {m : Nat} (hm : m < 6) (h3 : rd h 14 3 = some (.int (nI m))) (e0 : rd h1 14 0 = rd h 14 0) (e5 : ∀ j, j < 8 → rd h1 15 j = rd h 15 j) (e3 : rd h1 14 3 = some (.int (nI (m + 1)))) {kd w y : Int32} (e7 : ∀ k, k < 6 → rd h1 17 k = if k = m then some (.int kd) else rd h 17 k) (e8 : ∀ k, k < 6 → rd h1 18 k = if k = m then some (.int w) else rd h 18 k) (e9 : ∀ k, k < 6 → rd h1 19 k = if k = m then some (.int y) else rd h 19 k) (hw : (0 ≤ w.toInt ∧ w.toInt ≤ 13) ∧ (kd = Int32.ofInt 3 → w.toInt ≤ 3) ∧ 1 ≤ y.toInt ∧ y.toInt ≤ 40) : QW (vw w_W h1) := by
  obtain ⟨n, m0, ⟨hn, hm0⟩, q0, q3, qa, q4⟩ := q
  rw [vw_14 (Or.inl rfl)] at q0
  rw [vw_14 (Or.inr rfl), h3] at q3
  have e := nI_inj (by omega) (by omega) (int_inj q3)
  subst e
  refine ⟨n, m + 1, ⟨hn, by omega⟩, by rw [vw_14 (Or.inl rfl)]; exact e0.trans q0, by rw [vw_14 (Or.inr rfl)]; exact e3, fun j hj => ?_, fun k hk => ?_⟩
  · obtain ⟨a, a1, a2⟩ := qa j hj
    rw [vw_wo (by decide) (by decide)] at a1
    exact ⟨a, by rw [vw_wo (by decide) (by decide)]; exact (e5 j (by omega)).trans a1, a2⟩
  by_cases hkm : k = m
  · refine ⟨kd, w, y, ?_, ?_, ?_, hw⟩
    · rw [vw_wo (by decide) (by decide), e7 k (by omega), if_pos hkm]
    · rw [vw_wo (by decide) (by decide), e8 k (by omega), if_pos hkm]
    · rw [vw_wo (by decide) (by decide), e9 k (by omega), if_pos hkm]
  · obtain ⟨a, b, c, k1, k2, k3, k4⟩ := q4 k (by omega)
    rw [vw_wo (by decide) (by decide)] at k1 k2 k3
    refine ⟨a, b, c, ?_, ?_, ?_, k4⟩
    · rw [vw_wo (by decide) (by decide), e7 k (by omega), if_neg hkm]; exact k1
    · rw [vw_wo (by decide) (by decide), e8 k (by omega), if_neg hkm]; exact k2
    · rw [vw_wo (by decide) (by decide), e9 k (by omega), if_neg hkm]; exact k3
theorem qw_same {h h1 : XH} (q : QW (vw w_W h)) (e0 : rd h1 14 0 = rd h 14 0) (e5 : ∀ j, j < 8 → rd h1 15 j = rd h 15 j) (e3 : rd h1 14 3 = rd h 14 3) (e7 : ∀ k, k < 6 → rd h1 17 k = rd h 17 k) (e8 : ∀ k, k < 6 → rd h1 18 k = rd h 18 k) (e9 : ∀ k, k < 6 → rd h1 19 k = rd h 19 k) : QW (vw w_W h1) := by
  obtain ⟨n, -, ⟨hn, -⟩, q0, -, qa, -⟩ := id q
  rw [vw_14 (Or.inl rfl)] at q0
  refine qw_n q hn (e0.trans q0) (fun j hj => ?_) e3 e7 e8 e9
  obtain ⟨a, a1, a2⟩ := qa j hj
  rw [vw_wo (by decide) (by decide)] at a1
  exact ⟨a, (e5 j (by omega)).trans a1, a2⟩
