/-! contracts joined along one argument -/
def aaltle (o p : AAlt) : Bool := (match p.1 with
  | none => o.1.isNone
  | some b => match o.1 with
    | some a => ale a b && Nat.blt b.2.2.2.2.2 1000
    | none => false) && (p.2.1.isEmpty && p.2.2.isEmpty)
def ajcov : List (Int × Int) → Int → Int → Bool
  | [], lo, hi => decide (hi < lo)
  | u :: t, lo, hi => decide (u.1 ≤ lo) && ajcov t (u.2 + 1) hi
def ajb (c : ACt) (j : Nat) : Int × Int := match c.1.2.1[j]? with
  | some b => (b.2.1, b.2.2.1)
  | none => (1, 0)
def ajle (c : ACt) (j : Nat) (d : ACt) : Bool := Nat.beq d.1.1 c.1.1 && (Nat.beq d.2.2.1 c.2.2.1 && (Nat.beq d.2.2.2 c.2.2.2 && (d.2.1.isEmpty && (decide (d.1.2.1 = c.1.2.1.set j (avI (ajb d j).1 (ajb d j).2)) && (d.1.2.2.1.all (fun o => c.1.2.2.1.any (aaltle o)) && (awin c.1.2.2.2.1 d.1.2.2.2.1 && decide (d.1.2.2.2.2 ≤ c.1.2.2.2.2)))))))
def ajoin (c : ACt) (j : Nat) (cs : List ACt) : Bool := (match c.1.2.1[j]? with
  | some a => a.1 == 0 && (ajcov (cs.map fun d => ajb d j) a.2.1 a.2.2.1 && decide (a.2.1 ≤ a.2.2.1))
  | none => false) && cs.all (ajle c j)
theorem ajcov_ok {x : Int} : ∀ {l : List (Int × Int)} {lo hi : Int}, ajcov l lo hi = true → lo ≤ x → x ≤ hi → ∃ u ∈ l, u.1 ≤ x ∧ x ≤ u.2
  | [], lo, hi, h, h1, h2 => by
    have h := of_decide_eq_true h
    omega
  | u :: t, lo, hi, h, h1, h2 => by
    unfold ajcov at h
    simp only [Bool.and_eq_true, decide_eq_true_eq] at h
    by_cases hx : x ≤ u.2
    · exact ⟨u, List.mem_cons_self, by omega, hx⟩
    · obtain ⟨v, hv, e⟩ := ajcov_ok h.2 (by omega) h2
      exact ⟨v, List.mem_cons_of_mem _ hv, e⟩
theorem gal_at {W : AW} : ∀ {B : List AV} {as : List Value} {j : Nat} {a : AV}, gal W B as → B[j]? = some a → ∃ v, as[j]? = some v ∧ ga W a v
  | [], [], _, _, _, h => by cases h
  | [], _ :: _, _, _, h, _ => h.elim
  | _ :: _, [], _, _, h, _ => h.elim
  | _ :: _, v :: _, 0, _, h, hj => by cases hj; exact ⟨v, rfl, h.1⟩
  | _ :: _, _ :: _, j + 1, _, h, hj => gal_at (j := j) h.2 hj
theorem gal_set {W : AW} {b : AV} {v : Value} : ∀ {B : List AV} {as : List Value} {j : Nat}, gal W B as → as[j]? = some v → ga W b v → gal W (B.set j b) as
  | [], [], _, _, h, _ => by cases h
  | [], _ :: _, _, h, _, _ => h.elim
  | _ :: _, [], _, h, _, _ => h.elim
  | _ :: _, _ :: _, 0, h, hj, hb => by cases hj; exact ⟨hb, h.2⟩
  | _ :: _, _ :: _, j + 1, h, hj, hb => ⟨h.1, gal_set (j := j) h.2 hj hb⟩
theorem ajoin_ok {W : AW} {P : Nat × List APr} {c : ACt} {cs : List ACt} (j : Nat) (hcs : ∀ d ∈ cs, AHp W P d) (hc : c.2.1 = []) (h : ajoin c j cs = true) : AHp W P c := by
  unfold ajoin at h
  rw [Bool.and_eq_true] at h
  obtain ⟨h1, h2⟩ := h
  split at h1
  · rename_i a ha
    simp only [Bool.and_eq_true, beq_iff_eq, decide_eq_true_eq] at h1
    obtain ⟨a0, a1, a2⟩ := h1
    have key : ∀ x : Int, a.2.1 ≤ x → x ≤ a.2.2.1 → ∃ d ∈ cs, (ajb d j).1 ≤ x ∧ x ≤ (ajb d j).2 := fun x e1 e2 => by
      obtain ⟨u, hu, e⟩ := ajcov_ok a1 e1 e2
      obtain ⟨d, hd, rfl⟩ := List.mem_map.mp hu
      exact ⟨d, hd, e⟩
    have le : ∀ d ∈ cs, d.1.1 = c.1.1 ∧ d.2.2.1 = c.2.2.1 ∧ d.2.2.2 = c.2.2.2 ∧ d.2.1 = [] ∧ d.1.2.1 = c.1.2.1.set j (avI (ajb d j).1 (ajb d j).2) ∧ (d.1.2.2.1.all (fun o => c.1.2.2.1.any (aaltle o))) = true ∧ awin c.1.2.2.2.1 d.1.2.2.2.1 = true ∧ d.1.2.2.2.2 ≤ c.1.2.2.2.2 := fun d hd => by
      have := List.all_eq_true.mp h2 d hd
      unfold ajle at this
      simp only [Bool.and_eq_true, decide_eq_true_eq] at this
      obtain ⟨q1, q2, q3, q4, q5, q6, q7, q8⟩ := this
      exact ⟨Nat.eq_of_beq_eq_true q1, Nat.eq_of_beq_eq_true q2, Nat.eq_of_beq_eq_true q3, List.isEmpty_iff.mp q4, q5, q6, q7, q8⟩
    refine ⟨?_, fun as h0 hI hP hal hm => ?_⟩
    · obtain ⟨d, hd, -⟩ := key a.2.1 (Int.le_refl _) a2
      obtain ⟨q1, q2, q3, q4, q5, -⟩ := le d hd
      obtain ⟨⟨M1, m1, m2, m3, m4⟩, -⟩ := hcs d hd
      refine ⟨M1, by rw [← q1]; exact m1, m2.trans q2, ?_, m4.trans q3⟩
      rw [m3, q5, List.length_set]
    · obtain ⟨v, hv, hg⟩ := gal_at hal ha
      obtain ⟨x, rfl, e1, e2⟩ := ga_int a0 hg
      obtain ⟨d, hd, f1, f2⟩ := key x.toInt e1 e2
      obtain ⟨q1, q2, q3, q4, q5, q6, q7, q8⟩ := le d hd
      obtain ⟨-, hh⟩ := hcs d hd
      obtain ⟨v, h1, k1, k2, k3, k4, o, ho, o1, o2, o3⟩ := hh as h0 hI hP (by rw [q5]; exact gal_set hal hv (ga_of rfl ⟨f1, f2⟩)) (by rw [q4]; exact fun q hq => by cases hq)
      obtain ⟨p, hp, hle⟩ := List.any_eq_true.mp (List.all_eq_true.mp q6 o ho)
      refine ⟨v, h1, by rw [← q1]; exact XCall.up q8 k1, k2, k3, awin_ok k4 q7, p, hp, ?_⟩
      unfold aaltle at hle
      simp only [Bool.and_eq_true] at hle
      obtain ⟨l1, l2, l3⟩ := hle
      have l2 := List.isEmpty_iff.mp l2
      have l3 := List.isEmpty_iff.mp l3
      refine ⟨?_, by rw [l2]; exact fun q hq => (by cases hq), by rw [l3]; exact fun q hq => (by cases hq)⟩
      have o1a := o1.1
      unfold aansH aans
      unfold aans at o1a
      cases hp1 : p.1 with
      | none =>
        rw [hp1] at l1
        have l1 : o.1.isNone = true := l1
        cases ho1 : o.1 with
        | none => rw [ho1] at o1a; exact ⟨o1a, trivial⟩
        | some b => rw [ho1] at l1; cases l1
      | some b =>
        rw [hp1] at l1
        cases ho1 : o.1 with
        | none => rw [ho1] at l1; cases l1
        | some b2 =>
          rw [ho1] at l1 o1a
          have l1 : (ale b2 b && Nat.blt b.2.2.2.2.2 1000) = true := l1
          rw [Bool.and_eq_true] at l1
          obtain ⟨w, rfl, hw⟩ := o1a
          exact ⟨⟨w, rfl, ale_ok l1.1 hw⟩, fun hb => absurd (Nat.le_of_ble_eq_true l1.2) (by omega)⟩
  · cases h1
