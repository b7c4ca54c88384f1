/-! what the world says of the model's object and rows -/
theorem w_one {r k j : Nat} (h : w_o r = true) (hk : k < 549) (hj : j < 549) (e1 : w_rg k = r) (e2 : w_rg j = r) : k = j := w_k.1.1 r h k j hk hj e1 e2
theorem w_ref {r j k0 : Nat} {v : Value} (h : w_o r = true) (hj : w_rg j = r) (hj2 : j < 549) (hg : ga w_W (avR r) v) : v = .ref j := by
  obtain ⟨k, rfl, e1, e2⟩ := ga_2 rfl hg
  rw [w_one h e2 hj2 e1 hj]
theorem w_rg_13 : w_rg 13 = 13 := by decide +kernel
theorem w_rg_14 : w_rg 14 = 14 := by decide +kernel
theorem w_rg_42 : w_rg 42 = 27 := by decide +kernel
theorem w_rg_536 : w_rg 536 = 65 := by decide +kernel
theorem w_rg_537 : w_rg 537 = 66 := by decide +kernel
theorem w_rg_538 : w_rg 538 = 67 := by decide +kernel
theorem w_Sg (k : Nat) : w_W.2.1 (w_W.1 k) = w_S (w_rg k) := rfl
theorem w_S_536 : w_W.2.1 (w_W.1 536) = w_s65 := (w_Sg 536).trans ((congrArg w_S w_rg_536).trans rfl)
theorem w_S_13 : w_W.2.1 (w_W.1 13) = w_s13 := (w_Sg 13).trans ((congrArg w_S w_rg_13).trans rfl)
theorem w_same {p : Nat} (hp : p = 537 ∨ p = 538) : w_W.2.1 (w_W.1 p) = (1, 0, 490, [], w_s66.2.2.2.2) := by
  show w_S (w_rg p) = _
  rcases hp with rfl | rfl
  · rw [w_rg_537]; rfl
  · rw [w_rg_538]; rfl
theorem w_S66 : w_S 66 = (1, 0, 490, [], w_s66.2.2.2.2) := rfl
set_option maxRecDepth 100000 in
theorem w_mod {h : XH} (hI : AInv w_W h) : ∃ fs : List Value, h.2.2 536 = .inl (7, fs) ∧ fs[1]? = some (.ref 537) ∧ fs[2]? = some (.ref 538) ∧ fs.length = 25 := by
  obtain ⟨s1, s2⟩ := hI.2.2 536 (by decide)
  rw [w_S_536] at s1 s2
  obtain ⟨⟨o, fs⟩, ho, o1, o2⟩ := shp_o (s := w_s65) rfl s1
  have o1 : o = 7 := o1
  have o2 : fs.length = 25 := o2
  subst o1
  obtain ⟨v1, a1, b1⟩ := s2 1 (avR 66) rfl
  obtain ⟨v2, a2, b2⟩ := s2 2 (avR 67) rfl
  have e1 := w_ref (k0 := 0) (j := 537) rfl w_rg_537 (by decide) b1
  have e2 := w_ref (k0 := 0) (j := 538) rfl w_rg_538 (by decide) b2
  unfold rd at a1 a2
  rw [ho] at a1 a2
  exact ⟨fs, ho, by rw [← e1]; exact a1, by rw [← e2]; exact a2, o2⟩
theorem w_row {h : XH} (hI : AInv w_W h) {p : Nat} (hp : p = 537 ∨ p = 538) : ∃ f : Nat → Int32, h.2.2 p = .inr (.inl (0, 490, f)) := by
  have hp2 : p < 549 := by omega
  obtain ⟨s1, -⟩ := hI.2.2 p hp2
  rw [w_same hp] at s1
  obtain ⟨⟨t, n, f⟩, ho, o1, o2⟩ := shp_i (s := (1, 0, 490, [], w_s66.2.2.2.2)) rfl s1
  have o1 : t = 0 := o1
  have o2 : n = 490 := o2
  subst o1
  subst o2
  exact ⟨f, ho⟩
theorem rd_row {h : XH} {p : Nat} {f : Nat → Int32} (hf : h.2.2 p = .inr (.inl (0, 490, f))) {b : Nat} (hb : b < 490) : rd h p b = some (.int (f b)) := by
  unfold rd
  rw [hf]
  exact if_pos hb
/-- a whole row put in place of another -/
theorem w_rowset {h : XH} (hI : AInv w_W h) {p : Nat} (hp : p = 537 ∨ p = 538) {f : Nat → Int32} (hf : ∀ b a, b < 490 → shA (w_S 66) b = some a → ga w_W a (.int (f b))) : AInv w_W (xup h p (.inr (.inl (0, 490, f)))) := by
  obtain ⟨i1, i2, i3⟩ := hI
  refine ⟨i1, i2, fun k hk => ?_⟩
  by_cases hkp : k = p
  · subst hkp
    rw [xup_eq]
    rw [w_same hp]
    refine ⟨⟨rfl, rfl⟩, fun b a hab => ?_⟩
    have hb : b < 490 := by
      by_cases hb : b < 490
      · exact hb
      · have hab : (if b < 490 then (match sgI w_s66.2.2.2.2 b b with
          | some (lo, hi) => some (avI lo hi)
          | none => none) else none) = some a := hab
        rw [if_neg hb] at hab
        cases hab
    have hab2 : shA (w_S 66) b = some a := hab
    refine ⟨_, ?_, hf b a hb hab2⟩
    unfold rd
    rw [xup_eq]
    exact if_pos hb
  · rw [xup_ne _ _ hkp]
    refine ⟨(i3 k hk).1, fun b a hab => ?_⟩
    obtain ⟨v, hv, hg⟩ := (i3 k hk).2 b a hab
    refine ⟨v, ?_, hg⟩
    unfold rd at hv ⊢
    rw [xup_ne _ _ hkp]
    exact hv
theorem w_cell {h : XH} (hI : AInv w_W h) {p : Nat} (hp : p = 537 ∨ p = 538) {f : Nat → Int32} (hf : h.2.2 p = .inr (.inl (0, 490, f))) {b : Nat} {a : AV} (hb : b < 490) (ha : shA (w_S 66) b = some a) : ga w_W a (.int (f b)) := by
  obtain ⟨-, s2⟩ := hI.2.2 p (by show p < 549; omega)
  rw [w_same hp] at s2
  obtain ⟨v, hv, hg⟩ := s2 b a ha
  rw [rd_row hf hb] at hv
  cases hv
  exact hg
def prF (f : Nat → Int32) (a b : Nat) : Prop := (f a).toInt = 3 → 0 ≤ (f b).toInt ∧ (f b).toInt ≤ 3
def prs (f : Nat → Int32) : Prop := (∀ m, m < 6 → prF f (110 + m) (116 + m)) ∧ ∀ i, i < 36 → prF f (140 + 8 * i) (141 + 8 * i) ∧ prF f (146 + 8 * i) (147 + 8 * i)
theorem wP_1 : ∀ m : Fin 6, w_P.2[m.val]? = some (110 + m.val, 3, 116 + m.val, 0, 3) := by decide +kernel
theorem wP_2 : ∀ i : Fin 36, w_P.2[6 + 2 * i.val]? = some (140 + 8 * i.val, 3, 141 + 8 * i.val, 0, 3) := by decide +kernel
theorem wP_3 : ∀ i : Fin 36, w_P.2[7 + 2 * i.val]? = some (146 + 8 * i.val, 3, 147 + 8 * i.val, 0, 3) := by decide +kernel
theorem wP_len : w_P.2.length = 78 := by decide +kernel
theorem pinv_to {h : XH} {r p : Nat} {f : Nat → Int32} (hp : p < 549) (hr : w_rg p = r) (hf : h.2.2 p = .inr (.inl (0, 490, f))) (hP : PInv w_W (r, w_P.2) h []) : prs f := by
  have key : ∀ (i : Nat) (a b : Nat), w_P.2[i]? = some (a, 3, b, 0, 3) → a < 490 → b < 490 → prF f a b := fun i a b hi ha hb h3 => by
    obtain ⟨y, hy, y1, y2⟩ := hP.1 i _ hi List.not_mem_nil p hp hr (f a) (rd_row hf ha) h3
    rw [show rd h p (a, (3 : Int), b, (0 : Int), (3 : Int)).2.2.1 = some (.int (f b)) from rd_row hf hb] at hy
    cases hy
    exact ⟨y1, y2⟩
  exact ⟨fun m hm => key m _ _ (wP_1 ⟨m, hm⟩) (by omega) (by omega), fun i hi => ⟨key _ _ _ (wP_2 ⟨i, hi⟩) (by omega) (by omega), key _ _ _ (wP_3 ⟨i, hi⟩) (by omega) (by omega)⟩⟩
theorem ppr_of {h : XH} {r p : Nat} {f : Nat → Int32} (hp : p < 549) (hr : w_rg p = r) (ho : w_o r = true) (hf : h.2.2 p = .inr (.inl (0, 490, f))) (hs : prs f) : PPr w_W (r, w_P.2) h [] := fun i q hq _ k hk hkr x hx hv => by
  have hkp : k = p := w_one ho hk hp hkr hr
  subst hkp
  have key : ∀ a b : Nat, q = (a, 3, b, 0, 3) → a < 490 → b < 490 → prF f a b → ∃ y : Int32, rd h k q.2.2.1 = some (.int y) ∧ q.2.2.2.1 ≤ y.toInt ∧ y.toInt ≤ q.2.2.2.2 := fun a b e ha hb hpr => by
    subst e
    rw [show rd h k (a, (3 : Int), b, (0 : Int), (3 : Int)).1 = some (.int (f a)) from rd_row hf ha] at hx
    cases hx
    exact ⟨f b, rd_row hf hb, hpr hv⟩
  have hi : i < 78 := by rw [← wP_len]; exact (List.getElem?_eq_some_iff.mp hq).1
  have hq : w_P.2[i]? = some q := hq
  by_cases h6 : i < 6
  · rw [wP_1 ⟨i, h6⟩] at hq
    cases hq
    exact key _ _ rfl (by omega) (by omega) (hs.1 i h6)
  · by_cases he : i % 2 = 0
    · have e : i = 6 + 2 * ((i - 6) / 2) := by omega
      rw [e, wP_2 ⟨(i - 6) / 2, by omega⟩] at hq
      exact key _ _ (Option.some.inj hq).symm (by omega) (by omega) (hs.2 _ (by omega)).1
    · have e : i = 7 + 2 * ((i - 7) / 2) := by omega
      rw [e, wP_3 ⟨(i - 7) / 2, by omega⟩] at hq
      exact key _ _ (Option.some.inj hq).symm (by omega) (by omega) (hs.2 _ (by omega)).2
theorem pinv_of {h : XH} {r p : Nat} {f : Nat → Int32} (hp : p < 549) (hr : w_rg p = r) (ho : w_o r = true) (hf : h.2.2 p = .inr (.inl (0, 490, f))) (hs : prs f) (hc : CQ w_W (r, w_P.2) h) : PInv w_W (r, w_P.2) h [] := ⟨ppr_of hp hr ho hf hs, hc⟩
