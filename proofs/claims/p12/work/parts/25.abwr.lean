/-! writing the heap -/
def azin (ws : AWr) (r : Nat) (i j : Int) : Bool := ws.any fun u => u.1 == r && (decide (u.2.1 ≤ i) && decide (j ≤ u.2.2))
theorem azin_ok {ws : AWr} {r : Nat} {i j : Int} (h : azin ws r i j = true) : ∃ u ∈ ws, u.1 = r ∧ u.2.1 ≤ i ∧ j ≤ u.2.2 := by
  unfold azin at h
  obtain ⟨u, hu, h2⟩ := List.any_eq_true.mp h
  simp only [Bool.and_eq_true, beq_iff_eq, decide_eq_true_eq] at h2
  exact ⟨u, hu, h2.1, h2.2.1, h2.2.2⟩
def azty (ty : FieldType) (v : AV) : Bool := match ty with
  | .int => true
  | .boolean => decide (0 ≤ v.2.1) && decide (v.2.2.1 ≤ 1)
  | _ => false
def azpf (W : AW) (ws : AWr) (ci b q : Nat) (A : List (Option AV)) (S : List AV) (m : AM) : Option (List AS) := match S with
  | v :: a :: r => if a.1 = 2 ∧ v.1 = 0 ∧ 13 ≤ a.2.2.2.1 ∧ (W.2.1 a.2.2.2.1).1 = 0 ∧ (W.2.1 a.2.2.2.1).2.1 = ci ∧ azin ws a.2.2.2.1 b b = true ∧ azty (xty ci b) v = true then (match (W.2.1 a.2.2.2.1).2.2.2.1[b]? with
    | some s => if s.1 = 0 ∧ s.2.1 ≤ v.2.1 ∧ v.2.2.1 ≤ s.2.2.1 then some [(q, A.map (Option.map (aunK a.2.2.2.1 b b)), r.map (aunK a.2.2.2.1 b b), awrite W m a.2.2.2.1 b v)] else none
    | none => none) else none
  | _ => none
/-- bounds that every slot from i to j allows -/
def sgW : List (Nat × Int × Int) → Int → Int → Int → Int → Bool
  | [], _, _, _, _ => false
  | (u, l0, h0) :: t, i, j, lo, hi => if (u : Int) ≤ i then sgW t i j lo hi else if j < (u : Int) then decide (l0 ≤ lo) && decide (hi ≤ h0) else decide (l0 ≤ lo) && (decide (hi ≤ h0) && sgW t i j lo hi)
theorem sgW_ok : ∀ {s : List (Nat × Int × Int)} {i j p lo hi : Int}, sgW s i j lo hi = true → i ≤ p → p ≤ j → ∃ l2 h2, sgI s p p = some (l2, h2) ∧ l2 ≤ lo ∧ hi ≤ h2
  | [], _, _, _, _, _, h, _, _ => by cases h
  | (u, l0, h0) :: t, i, j, p, lo, hi, h, h1, h2 => by
    unfold sgW at h
    unfold sgI
    split at h
    · rename_i hu
      rw [if_pos (by omega)]
      exact sgW_ok h h1 h2
    · rename_i hu
      split at h
      · rename_i hj
        simp only [Bool.and_eq_true, decide_eq_true_eq] at h
        rw [if_neg (by omega), if_pos (by omega)]
        exact ⟨_, _, rfl, h.1, h.2⟩
      · rename_i hj
        simp only [Bool.and_eq_true, decide_eq_true_eq] at h
        by_cases hp : (u : Int) ≤ p
        · rw [if_pos hp]
          exact sgW_ok h.2.2 h1 h2
        · rw [if_neg hp, if_pos (by omega)]
          exact ⟨_, _, rfl, h.1, h.2.1⟩
/-- t 0: ints, 1: booleans -/
def azas (W : AW) (ws : AWr) (t q : Nat) (A : List (Option AV)) (S : List AV) (m : AM) : Option (List AS) := match S with
  | v :: i :: a :: r => if v.1 = 0 ∧ i.1 = 0 ∧ a.1 = 2 ∧ 13 ≤ a.2.2.2.1 ∧ (W.2.1 a.2.2.2.1).1 = 1 ∧ (W.2.1 a.2.2.2.1).2.1 = t ∧ 0 ≤ i.2.1 ∧ i.2.2.1 < ((W.2.1 a.2.2.2.1).2.2.1 : Int) ∧ azin ws a.2.2.2.1 i.2.1 i.2.2.1 = true ∧ sgW (W.2.1 a.2.2.2.1).2.2.2.2 i.2.1 i.2.2.1 v.2.1 v.2.2.1 = true ∧ (t = 0 ∨ 0 ≤ v.2.1 ∧ v.2.2.1 ≤ 1) then
      some [(q, A.map (Option.map (aunK a.2.2.2.1 i.2.1 i.2.2.1)), r.map (aunK a.2.2.2.1 i.2.1 i.2.2.1), if i.2.1 = i.2.2.1 then awrite W m a.2.2.2.1 i.2.1.toNat v else aforget m a.2.2.2.1 i.2.1 i.2.2.1)] else none
  | _ => none
section AWS
variable {W : AW} {E : Nat → Int} {L : XL} {h : XH} {A : List (Option AV)} {S : List AV} {m : AM} {st : List Value} {l : List AS} {ws : AWr} {q t : Nat}
theorem i32_01 {x : Int32} (h0 : 0 ≤ x.toInt) (h1 : x.toInt ≤ 1) : x = 0 ∨ x = 1 := by
  rcases (show x.toInt = 0 ∨ x.toInt = 1 by omega) with e | e
  · exact Or.inl (i32_is (n := 0) (by omega) e)
  · exact Or.inr (i32_is (n := 1) (by omega) e)
theorem azty_ok {ty : FieldType} {v : AV} {x : Int32} (hx : gi v x) (h : azty ty v = true) : fits ty (.int x) = true ∧ narrow ty (.int x) = .int x := by
  unfold azty at h
  split at h
  · exact ⟨rfl, rfl⟩
  · simp only [Bool.and_eq_true, decide_eq_true_eq] at h
    rcases i32_01 (x := x) (by have := hx.1; omega) (by have := hx.2; omega) with rfl | rfl
    · exact ⟨rfl, rfl⟩
    · exact ⟨rfl, rfl⟩
  · cases h
theorem azpf_ok {ci b idx : Nat} (hw : AWf W) (hg : gss W E A S m L st h) (ha : azpf W ws ci b q A S m = some l) : ∃ r h1, xhp (.putfield idx) ci b st h = some (3, r, h1) ∧ aout W E h1 l (q, L, r) ∧ AFr W ws h h1 := by
  unfold azpf at ha
  split at ha
  · rename_i av a S2
    split at ha
    · rename_i hc
      obtain ⟨c1, c2, c3, c4, c5, c6, c7⟩ := hc
      split at ha
      · rename_i s hs
        split at ha
        · rename_i hc2
          obtain ⟨d1, d2, d3⟩ := hc2
          cases ha
          obtain ⟨v, r1, rfl, hv, hg1⟩ := hg.pop
          obtain ⟨u, r, rfl, hu, hg2⟩ := hg1.pop
          obtain ⟨x, rfl, ix⟩ := ga_int c2 hv.1
          obtain ⟨k, rfl, hk, hkn⟩ := ga_2 c1 hu.1
          obtain ⟨n1, n2, n3⟩ := hg.2.2.2
          obtain ⟨s1, s2⟩ := n3 k hkn
          rw [hk] at s1
          obtain ⟨o, ho, o1, o2⟩ := shp_o c4 s1
          have hb : b < o.2.length := by rw [o2]; exact (List.getElem?_eq_some_iff.mp hs).1
          obtain ⟨f1, f2⟩ := azty_ok ix c7
          have hW := wrote_field (h := h) (k := k) (ci := o.1) (fs := o.2) (v := .int x) ho hb
          have hsx : ga W s (.int x) := ga_of d1 ⟨by have := ix.1; omega, by have := ix.2; omega⟩
          refine ⟨r, _, ?_, ⟨_, List.mem_singleton.mpr rfl, rfl, hg2.1.wrote hW hk (Int.le_refl _) (Int.le_refl _), gst.wrote hW hk (Int.le_refl _) (Int.le_refl _) hg2.2.1, hg2.2.2.1.write hw hW hkn hk (ga_of c2 ix), hg.2.2.2.wrote hW (s := s) (by rw [hk]; unfold shA; rw [c4]; exact hs) hsx⟩, AFr.wrote hW (Int.le_refl _) (Int.le_refl _) (by rw [hk]; exact azin_ok c6)⟩
          have hkh : k < h.1 := by omega
          have hk13 : 13 ≤ k := own13 hw (by omega)
          simp only [xhp, ho]
          rw [if_pos ⟨hkh, hk13, o1.trans c5, hb, f1, f2⟩]
        · cases ha
      · cases ha
    · cases ha
  · cases ha
theorem azas_ok (hw : AWf W) (hg : gss W E A S m L st h) (ht : t = 0 ∨ t = 1) (ha : azas W ws t q A S m = some l) : ∃ r h1, xhp (if t = 0 then .iastore else .bastore) 0 0 st h = some (1, r, h1) ∧ aout W E h1 l (q, L, r) ∧ AFr W ws h h1 := by
  unfold azas at ha
  split at ha
  · rename_i av ai a S2
    split at ha
    · rename_i hc
      obtain ⟨c1, c2, c3, c4, c5, c6, c7, c8, c9, c10, c11⟩ := hc
      cases ha
      obtain ⟨v, r2, rfl, hv, hg1⟩ := hg.pop
      obtain ⟨w, r1, rfl, hi, hg2⟩ := hg1.pop
      obtain ⟨u, r, rfl, hu, hg3⟩ := hg2.pop
      obtain ⟨x, rfl, ix⟩ := ga_int c1 hv.1
      obtain ⟨i, rfl, ii⟩ := ga_int c2 hi.1
      obtain ⟨k, rfl, hk, hkn⟩ := ga_2 c3 hu.1
      obtain ⟨n1, n2, n3⟩ := hg.2.2.2
      obtain ⟨s1, s2⟩ := n3 k hkn
      rw [hk] at s1
      obtain ⟨⟨ot, on, f⟩, ho, o1, o2⟩ := shp_i c5 s1
      dsimp only at o1 o2
      have ii1 := ii.1
      have ii2 := ii.2
      have ec := i32_cl (x := i) (by omega)
      have hj : i.toNatClampNeg < on := by omega
      obtain ⟨l2, h2, e2, f1, f2⟩ := sgW_ok (p := ((i.toNatClampNeg : Nat) : Int)) c10 (by omega) (by omega)
      have hW := wrote_int (h := h) (k := k) (x := x) ho hj
      have hsx : ga W (avI l2 h2) (.int x) := ga_of rfl ⟨Int.le_trans f1 ix.1, Int.le_trans ix.2 f2⟩
      have hkh : k < h.1 := by omega
      have hk13 : 13 ≤ k := own13 hw (by omega)
      have hn : ¬ (i < 0 ∨ on ≤ i.toNatClampNeg) := fun hx => hx.elim (i32_nn (by omega)) (fun hx => by omega)
      have hmm : gmem W (xup h k (.inr (.inl (ot, on, upd f i.toNatClampNeg x)))) (if ai.2.1 = ai.2.2.1 then awrite W m a.2.2.2.1 ai.2.1.toNat av else aforget m a.2.2.2.1 ai.2.1 ai.2.2.1) := by
        split
        · rw [show ai.2.1.toNat = i.toNatClampNeg by omega]
          exact hg3.2.2.1.write hw hW hkn hk (ga_of c1 ix)
        · exact hg3.2.2.1.wrote hW hk (by omega) (by omega)
      refine ⟨r, _, ?_, ⟨_, List.mem_singleton.mpr rfl, rfl, hg3.1.wrote hW hk (by omega) (by omega), gst.wrote hW hk (by omega) (by omega) hg3.2.1, hmm, hg.2.2.2.wrote hW (s := avI l2 h2) (by rw [hk]; exact shA_1 c5 (by omega) e2) hsx⟩, AFr.wrote (i := ai.2.1) (j := ai.2.2.1) hW (by omega) (by omega) (by rw [hk]; exact azin_ok c9)⟩
      rcases ht with rfl | rfl
      · rw [if_pos rfl]
        simp only [xhp, ho]
        rw [if_pos ⟨hkh, hk13, o1.trans c6, hn⟩]
      · rw [if_neg (by decide)]
        simp only [xhp, ho]
        rw [if_pos ⟨hkh, hk13, o1.trans c6, hn⟩]
        have hx : vp_nar .boolean x = x := by
          have c12 := c11.resolve_left (by decide)
          rcases i32_01 (x := x) (by have := ix.1; omega) (by have := ix.2; omega) with rfl | rfl <;> rfl
        rw [hx]
    · cases ha
  · cases ha
end AWS
