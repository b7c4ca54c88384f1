/-! the walk is right -/
theorem arow_ok : ∀ {T : List XRow} {pc : Nat} {r : XRow} {t : List XRow}, arow T pc = some (r, t) → r ∈ T ∧ r.1 = pc ∧ ∀ z ∈ t, z ∈ T
  | [], _, _, _, h => by cases h
  | x :: T, pc, r, t, h => by
    unfold arow at h
    split at h
    · rename_i he
      cases h
      exact ⟨List.mem_cons_self, Nat.eq_of_beq_eq_true he, fun z hz => List.mem_cons_of_mem _ hz⟩
    · obtain ⟨h1, h2, h3⟩ := arow_ok h
      exact ⟨List.mem_cons_of_mem _ h1, h2, fun z hz => List.mem_cons_of_mem _ (h3 z hz)⟩
theorem arow2_ok {M : XMeth} {T : List XRow} {pc : Nat} {r : XRow} {t : List XRow} (hT : ∀ z ∈ T, z ∈ xmT M) (h : arow2 M T pc = some (r, t)) : r ∈ xmT M ∧ r.1 = pc ∧ ∀ z ∈ t, z ∈ xmT M := by
  unfold arow2 at h
  split at h
  · exact arow_ok h
  · split at h
    · rename_i he
      cases h
      exact ⟨hT _ List.mem_cons_self, Nat.eq_of_beq_eq_true he, fun z hz => hT z (List.mem_cons_of_mem _ hz)⟩
    · exact arow_ok h
/-- where a walk ends: at a cut, or at a return -/
def AEnd (p : APm) (R0 : Option (Int × List Int × List (Option AV))) (E : Nat → Int) (c c1 : XC) : Prop := AFr p.1 p.2.2.2.1.1.2.2.2.1 c.2.2.2 c1.2.2.2 ∧ (ARes p.1 p.2.1 p.2.2.1 p.2.2.2.1 R0.isNone E c1 ∨ ∃ cut ∈ p.2.2.2.2.2.2, ∃ q, AXh p.1 p.2.1 E q c1 ∧ acutok R0 q cut = true)
theorem awalk_ok {p : APm} {R0 : Option (Int × List Int × List (Option AV))} {E : Nat → Int} (hk : AWk p.1) (hcs : ∀ c ∈ p.2.2.2.2.1, AHp p.1 p.2.1 c.2) : ∀ (n : Nat) (fst : Bool) (T : List XRow) (q : AX) (c : XC), (∀ z ∈ T, z ∈ xmT p.2.2.1) → awalk p R0 n fst T q = true → AXh p.1 p.2.1 E q c → ∃ k c1, XRuns xM (XCall xM (p.2.2.2.1.1.2.2.2.2 - 1)) p.2.2.1 k c c1 ∧ AEnd p R0 E c c1
  | 0, _, _, _, _, _, h, _ => by cases h
  | n + 1, fst, T, q, c, hT, h, hg => by
    unfold awalk at h
    split at h
    · obtain ⟨cut, hc, hk2⟩ := List.any_eq_true.mp h
      exact ⟨0, c, rfl, AFr.refl _ _ _, Or.inr ⟨cut, hc, q, hg, hk2⟩⟩
    · split at h
      · cases h
      · rename_i r t hr
        obtain ⟨r1, r2, r3⟩ := arow2_ok hT hr
        split at h
        · exact ⟨0, c, rfl, AFr.refl _ _ _, Or.inl (aret_ok r1 r2 hg h)⟩
        · obtain ⟨u, hu, hgu⟩ := ahin_ok hk.1 q.2.1 p.2.2.2.2.2.1 [q] ⟨q, List.mem_singleton.mpr rfl, hg⟩
          have h2 := List.all_eq_true.mp h u hu
          split at h2
          · rename_i l hl
            have hpu : r.1 = u.2.1 := by rw [r2, ← hg.1, hgu.1]
            obtain ⟨c2, s1, ⟨v, hv, hgv⟩, s3⟩ := astep_ok hk hcs r1 hpu hgu hl
            have h3 := List.all_eq_true.mp h2 v hv
            obtain ⟨k, c1, k1, k2, k3⟩ := awalk_ok hk hcs n false t v c2 r3 h3 hgv
            exact ⟨k + 1, c1, ⟨c2, s1, k1⟩, s3.trans k2, k3⟩
          · cases h2
/-- behind a cut: a return -/
theorem acut_ok {p : APm} {n : Nat} (hk : AWk p.1) (hcs : ∀ c ∈ p.2.2.2.2.1, AHp p.1 p.2.1 c.2) (hc : p.2.2.2.2.2.2.all (acut0 p n) = true) : ∀ (z : Nat) (cut : ACut) (c : XC), cut ∈ p.2.2.2.2.2.2 → (ark c.2.1 cut).toNat < z → c.1 = cut.1.1 → gpl p.1 cut.1.2.1 c.2.1 → (∀ E2, gst p.1 E2 c.2.1 c.2.2.2 cut.1.2.2.1 c.2.2.1) → gmem p.1 c.2.2.2 cut.1.2.2.2 → AInv p.1 c.2.2.2 → PInv p.1 p.2.1 c.2.2.2 [] →
    ∃ k c1 E, XRuns xM (XCall xM (p.2.2.2.1.1.2.2.2.2 - 1)) p.2.2.1 k c c1 ∧ AFr p.1 p.2.2.2.1.1.2.2.2.1 c.2.2.2 c1.2.2.2 ∧ ARes p.1 p.2.1 p.2.2.1 p.2.2.2.1 false E c1
  | 0, _, _, _, hz, _, _, _, _, _, _ => absurd hz (Nat.not_lt_zero _)
  | z + 1, cut, c, hcut, hz, g1, g2, g3, g4, g5, g6 => by
    have h0 := List.all_eq_true.mp hc cut hcut
    unfold acut0 at h0
    simp only [Bool.and_eq_true, beq_iff_eq] at h0
    obtain ⟨a1, a2, a3, a4, a5⟩ := h0
    have hg : AXh p.1 p.2.1 (eF c.2.1) ([], cut.1.1, amk 0 cut.1.2.1, cut.1.2.2.1, cut.1.2.2.2) c := ⟨g1, ⟨amk_ok g2, g3 _, g4, g5⟩, g6⟩
    obtain ⟨k, c1, k1, k2, k3⟩ := awalk_ok hk hcs n true [] _ c (fun z hz => by cases hz) a5 hg
    rcases k3 with k3 | ⟨cut2, hc2, q, hq, hq2⟩
    · exact ⟨k, c1, eF c.2.1, k1, k2, k3⟩
    · have hcl := List.all_eq_true.mp hc cut2 hc2
      unfold acut0 at hcl
      simp only [Bool.and_eq_true, beq_iff_eq] at hcl
      obtain ⟨b1, b2, b3, b4, b5⟩ := hcl
      obtain ⟨⟨f1, f2, f3, f4, f5, f6⟩, hrk⟩ := acutok_ok hq hq2 b3
      have hr := hrk _ _ _ rfl g2.ebd
      have hlow : 0 ≤ ark c1.2.1 cut2 := by
        split at b4
        · rename_i w hw
          have := of_decide_eq_true b4
          have := alow_ok (E := eF c1.2.1) (n := 0) f2.ebd hw
          unfold ark
          omega
        · cases b4
      have hr2 : ark c1.2.1 cut2 + 1 ≤ ark c.2.1 cut := hr
      obtain ⟨k', c3, E3, m1, m2, m3⟩ := acut_ok hk hcs hc z cut2 c1 hc2 (by omega) f1 f2 f3 f4 f5 f6
      exact ⟨k + k', c3, E3, XRuns.app k k1 m1, k2.trans m2, m3⟩
/-! the entry -/
theorem axarg_ok {W : AW} : ∀ {pre : List AV} {as : List Value}, gal W pre as → (axarg pre).length = (xarg as).length ∧ ∀ (i : Nat) (o : Option AV), (axarg pre)[i]? = some o → ∃ d, (xarg as)[i]? = some d ∧ (match o with
  | some a => ∃ v, d = some v ∧ ga W a v
  | none => ∀ v, d = some v → v.category ≠ 2)
  | [], [], _ => ⟨rfl, fun i o h => by cases h⟩
  | [], _ :: _, h => h.elim
  | _ :: _, [], h => h.elim
  | a :: pre, v :: as, h => by
    have ih := axarg_ok h.2
    unfold axarg xarg
    by_cases h1 : a.1 = 1
    · have hv : v.category = 2 := by
        obtain ⟨x, rfl⟩ := ga_1 h1 h.1
        rfl
      rw [if_pos h1, if_pos hv]
      refine ⟨by simp [ih.1], fun i o ho => ?_⟩
      match i, ho with
      | 0, ho => cases ho; exact ⟨_, rfl, v, rfl, h.1⟩
      | 1, ho => cases ho; exact ⟨none, rfl, fun w hw => by cases hw⟩
      | i + 2, ho => exact ih.2 i o ho
    · have hv := ga_c1 h.1 h1
      rw [if_neg h1, if_neg (by omega)]
      refine ⟨by simp [ih.1], fun i o ho => ?_⟩
      match i, ho with
      | 0, ho => cases ho; exact ⟨_, rfl, v, rfl, h.1⟩
      | i + 1, ho => exact ih.2 i o ho
theorem aslo_at {W : AW} : ∀ {pre : List AV} {as : List Value} {j : Nat} {a : AV}, gal W pre as → pre[j]? = some a → ∃ v, as[j]? = some v ∧ ga W a v ∧ (xarg as)[aslo pre j]? = some (some v)
  | [], [], _, _, _, h => by cases h
  | [], _ :: _, _, _, h, _ => h.elim
  | _ :: _, [], _, _, h, _ => h.elim
  | b :: pre, v :: as, 0, a, h, hj => by
    cases hj
    refine ⟨v, rfl, h.1, ?_⟩
    unfold xarg aslo
    split <;> rfl
  | b :: pre, v :: as, j + 1, a, h, hj => by
    obtain ⟨w, h1, h2, h3⟩ := aslo_at (j := j) h.2 hj
    refine ⟨w, h1, h2, ?_⟩
    unfold xarg aslo
    by_cases hb : b.1 = 1
    · have hv : v.category = 2 := by
        obtain ⟨x, rfl⟩ := ga_1 hb h.1
        rfl
      rw [if_pos hb, if_pos hv, show 2 + aslo pre j = aslo pre j + 2 by omega]
      exact h3
    · have hv := ga_c1 h.1 hb
      rw [if_neg hb, if_neg (by omega), show 1 + aslo pre j = aslo pre j + 1 by omega]
      exact h3
theorem aent_ok {W : AW} {pre : List AV} {as : List Value} {k : Nat} (h : gal W pre as) : gpl W (axarg pre ++ List.replicate k none) (xarg as ++ List.replicate k none) := by
  obtain ⟨h1, h2⟩ := axarg_ok h
  refine ⟨by simp [h1], fun i o ho => ?_⟩
  by_cases hi : i < (axarg pre).length
  · rw [List.getElem?_append_left hi] at ho
    obtain ⟨d, hd, g⟩ := h2 i o ho
    exact ⟨d, by rw [List.getElem?_append_left (by omega)]; exact hd, g⟩
  · rw [List.getElem?_append_right (by omega)] at ho
    have hlt : i - (axarg pre).length < k := by
      have := (List.getElem?_eq_some_iff.mp ho).1
      simpa using this
    have ho2 : o = none := by
      rw [List.getElem?_replicate, if_pos hlt] at ho
      exact (Option.some.inj ho).symm
    subst ho2
    refine ⟨none, ?_, fun v hv => by cases hv⟩
    rw [List.getElem?_append_right (by omega), List.getElem?_replicate, if_pos (by omega)]
/-- A CHECKED CONTRACT HOLDS -/
theorem achk_ok {p : APm} {n : Nat} (hk : AWk p.1) (hcs : ∀ c ∈ p.2.2.2.2.1, AHp p.1 p.2.1 c.2) (hM : xM p.2.2.2.1.1.1 = some p.2.2.1 ∧ xmK p.2.2.1 = p.2.2.2.1.2.2.1 ∧ xmN p.2.2.1 + (if xmK p.2.2.1 = 0 then 0 else 1) = p.2.2.2.1.1.2.1.length ∧ xmC p.2.2.1 = p.2.2.2.1.2.2.2) (h : achk p n = true) : AHp p.1 p.2.1 p.2.2.2.1 := by
  refine ⟨⟨p.2.2.1, hM⟩, fun as h0 hI hP hal hm => ?_⟩
  unfold achk at h
  simp only [Bool.and_eq_true, decide_eq_true_eq] at h
  obtain ⟨hc, hd, hlen, hw⟩ := h
  have hax := axarg_ok hal
  have hgp := aent_ok (k := xmL p.2.2.1 - (xarg as).length) hal
  have hl2 : (axarg p.2.2.2.1.1.2.1).length = (xarg as).length := hax.1
  rw [hl2] at hw
  have hg : AXh p.1 p.2.1 (eF (xent p.2.2.1 as)) ([], 0, amk 0 (axarg p.2.2.2.1.1.2.1 ++ List.replicate (xmL p.2.2.1 - (xarg as).length) none), [], p.2.2.2.1.2.1) (0, xent p.2.2.1 as, [], h0) := ⟨rfl, ⟨amk_ok hgp, trivial, hm, hI⟩, hP⟩
  obtain ⟨k, c1, k1, k2, k3⟩ := awalk_ok hk hcs n false [] _ _ (fun z hz => by cases hz) hw hg
  have fin : ∀ (k : Nat) (c1 : XC) (v : Option Value), XRuns xM (XCall xM (p.2.2.2.1.1.2.2.2.2 - 1)) p.2.2.1 k (0, xent p.2.2.1 as, [], h0) c1 → XRet p.2.2.1 c1 v → XCall xM p.2.2.2.1.1.2.2.2.2 p.2.2.2.1.1.1 as h0 v c1.2.2.2 := fun k c1 v r1 r2 => by
    have e : p.2.2.2.1.1.2.2.2.2 = (p.2.2.2.1.1.2.2.2.2 - 1) + 1 := by omega
    rw [e]
    exact ⟨p.2.2.1, k, c1, hM.1, by omega, r1, r2, rfl⟩
  rcases k3 with ⟨v, v1, v2, v3, o, ho, o1, o2, o3⟩ | ⟨cut, hcut, q, hq, hq2⟩
  · refine ⟨v, c1.2.2.2, fin k c1 v k1 v1, v2, v3, k2, o, ho, o1, o2, fun u hu => ?_⟩
    obtain ⟨-, ⟨b, hb, hb0⟩, e1, e2⟩ := o3 u hu
    obtain ⟨w, w1, w2, w3⟩ := aslo_at hal hb
    obtain ⟨x, rfl, -⟩ := ga_int hb0 w2
    have hx : eF (xent p.2.2.1 as) (aslo p.2.2.2.1.1.2.1 u.1) = x.toInt := by
      unfold eF xent
      rw [List.getElem?_append_left (List.getElem?_eq_some_iff.mp w3).1, w3]
    rw [hx] at e1 e2
    exact ⟨x, w1, e1, e2⟩
  · have hcl := List.all_eq_true.mp hc cut hcut
    unfold acut0 at hcl
    simp only [Bool.and_eq_true, beq_iff_eq] at hcl
    obtain ⟨b1, b2, b3, b4, b5⟩ := hcl
    obtain ⟨⟨f1, f2, f3, f4, f5, f6⟩, -⟩ := acutok_ok hq hq2 b3
    obtain ⟨k', c3, E3, m1, m2, v, v1, v2, v3, o, ho, o1, o2, o3⟩ := acut_ok hk hcs hc _ cut c1 hcut (Nat.lt_succ_self _) f1 f2 f3 f4 f5 f6
    refine ⟨v, c3.2.2.2, fin _ c3 v (XRuns.app k k1 m1) v1, v2, v3, k2.trans m2, o, ho, o1, o2, fun u hu => ?_⟩
    exact absurd (o3 u hu).1 (by decide)
