theorem x_arr {args : Array Value} {s : State} {ty : FieldType} (h : (Cond.arrayClass ty).before args s = true) : ∃ cA : ClassId, ArrOfT s cA ty ∧ s.vm.findClass ("[" ++ ty.toString) = some cA := by
  obtain ⟨cA, kA, comp, h1, h2, h3⟩ := Cond.arrayClass_spec h
  exact ⟨cA, fun n z => ⟨(fun k h => by cases h), kA, h2, comp, h3⟩, h1⟩
theorem x_arrO {args : Array Value} {s : State} {C : String} (h : (Cond.arrayOver (.object C)).before args s = true) : ∃ cA : ClassId, ArrOfT s cA (.object C) ∧ va_RA s cA (.object C) := by
  obtain ⟨comp, cA, kA, f4, -, f2, f3, f1⟩ := Cond.arrayOver_spec h
  exact ⟨cA, fun N z => ⟨(fun k h => by cases h), kA, f2, comp, f3⟩, kA, comp, f2, f3, f4, f1⟩
def xab (j : Nat) : Int32 := [-1, 0, 0, 0, 2, 2, 3].getD j 0
/-- what the machine of places starts from: the classes, the rows' classes, the static row, the script -/
theorem x_G {s : State} {b L : Nat} {xs : Nat → Int32} (hts : ∀ w ∈ lw_tbl, w.before #[Value.ref b] s = true) (hX : va_X b L xs s s.heap) (hbl : b < s.heap.size) (hgv : (Jvm.Cond.and given_1 narrow_1).before #[Value.ref b] s = true) : ∃ G : XG, xHs G = s.heap ∧ xad G 1 = b ∧ G.2.2.2.2 = (fun k => if k = 0 then (7, xab) else (L, xs)) ∧ xK G s := by
  have hA : ∀ a : Nat, a < s.heap.size → ¬ (fun q : Nat => s.heap.size ≤ q) a := fun a h => Nat.not_le.mpr h
  have hin : ∀ (k : Nat) (q : vw_C), vwCl[k]? = some q → ∃ (cC : ClassId) (iS : Nat → Nat), u_Kn s q.1 q.2.1 q.2.2 cC iS := fun k q hq => by
    match k, hq with
    | 0, hq => cases hq; exact u_known hts (fun w hw => (x_lay0 w hw).1) (hts _ (List.mem_filter.mp x_ins0).1)
    | 1, hq => cases hq; exact u_known hts (fun w hw => (x_lay1 w hw).1) (hts _ (List.mem_filter.mp x_ins1).1)
    | 2, hq => cases hq; exact u_known hts (fun w hw => (x_lay2 w hw).1) (hts _ (List.mem_filter.mp x_ins2).1)
    | 3, hq => cases hq; exact u_known hts (fun w hw => (x_lay3 w hw).1) (hts _ (List.mem_filter.mp x_ins3).1)
    | 4, hq => cases hq; exact u_known hts (fun w hw => (x_lay4 w hw).1) (hts _ (List.mem_filter.mp x_ins4).1)
    | 5, hq => cases hq; exact u_known hts (fun w hw => (x_lay5 w hw).1) (hts _ (List.mem_filter.mp x_ins5).1)
    | 6, hq => cases hq; exact u_known hts (fun w hw => (x_lay6 w hw).1) (hts _ (List.mem_filter.mp x_ins6).1)
    | 7, hq => cases hq; exact u_known hts (fun w hw => (x_lay7 w hw).1) (hts _ (List.mem_filter.mp x_ins7).1)
    | k + 8, hq => cases hq
  have hin2 : ∀ k : Nat, ∃ (cC : ClassId) (iS : Nat → Nat), ∀ q : vw_C, vwCl[k]? = some q → u_Kn s q.1 q.2.1 q.2.2 cC iS := fun k => by
    cases h : vwCl[k]? with
    | none => exact ⟨0, fun _ => 0, fun q hq => by cases hq⟩
    | some q =>
      obtain ⟨cC, iS, h1⟩ := hin k q h
      exact ⟨cC, iS, fun q2 hq => by cases hq; exact h1⟩
  obtain ⟨c0, a0, r0⟩ := x_arr (hts _ (List.mem_filter.mp x_ac_int).1)
  obtain ⟨c1, a1, r1⟩ := x_arr (hts _ (List.mem_filter.mp x_ac_boolean).1)
  have o0 := hts (.arrayOver (.object RX0)) (List.mem_of_getElem? (i := 229) (by decide +kernel))
  have o1 := hts (.arrayOver (.object RX1)) (List.mem_of_getElem? (i := 140) (by decide +kernel))
  obtain ⟨c2, a2, r2⟩ := x_arrO o0
  obtain ⟨c3, a3, r3⟩ := x_arrO o1
  have hs := flat_of_before _ hgv
  obtain ⟨t, ht, hT⟩ := va_Tof (tm := .static RX6 "ABOVE" "[I") (ty := .int) (N := 7) (f := fun j => .int (xab j)) (A := fun q : Nat => s.heap.size ≤ q) (by decide) (hs _ (by decide +kernel)) (va_eqt (hs (Cond.eq (.length (.static RX6 "ABOVE" "[I")) (.int 7)) (by decide +kernel))) (fun j hj => by
    match j, hj with
    | 0, _ => exact va_eqt (z := -1) (hs _ (by decide +kernel))
    | 1, _ => exact va_eqt (z := 0) (hs _ (by decide +kernel))
    | 2, _ => exact va_eqt (z := 0) (hs _ (by decide +kernel))
    | 3, _ => exact va_eqt (z := 0) (hs _ (by decide +kernel))
    | 4, _ => exact va_eqt (z := 2) (hs _ (by decide +kernel))
    | 5, _ => exact va_eqt (z := 2) (hs _ (by decide +kernel))
    | 6, _ => exact va_eqt (z := 3) (hs _ (by decide +kernel))
    | k + 7, h => exact absurd h (by omega)) hA
  have hZ := va_Zof (C := RX6) (n := "ABOVE") (d := "[I") (v := .ref t) (A := fun q : Nat => s.heap.size ≤ q) (hts _ (List.mem_of_getElem? (i := 818) (by decide +kernel))) (hts _ (List.mem_filter.mp x_ini6).1) ht hA
  refine ⟨((fun k => Classical.choose (hin2 k), fun k => Classical.choose (Classical.choose_spec (hin2 k))), (fun k => if k = 0 then c0 else if k = 1 then c1 else if k = 2 then c2 else c3), (fun k => if k = 0 then t else b), s.heap, (fun k => if k = 0 then (7, xab) else (L, xs))), rfl, rfl, rfl, ⟨fun k q hq => Classical.choose_spec (Classical.choose_spec (hin2 k)) q hq, fun k q hq => ?_⟩, fun k hk => ?_, hZ, va_AO.of o0, va_AO.of o1, fun w hw => ?_⟩
  · match k, hq with
    | 0, hq => cases hq; exact ⟨a0, r0⟩
    | 1, hq => cases hq; exact ⟨a1, r1⟩
    | 2, hq => cases hq; exact ⟨a2, r2⟩
    | 3, hq => cases hq; exact ⟨a3, r3⟩
    | k + 4, hq => cases hq
  · match k, hk with
    | 0, _ => exact hT
    | 1, _ =>
      obtain ⟨scr, e1, e2, e3, e4, e5⟩ := hX
      exact ⟨scr, e1, e2, e3, Nat.le_of_eq e4.symm, by rw [e4]; rfl, e5, hA b hbl⟩
    | k + 2, h => exact absurd h (by omega)
  · have hi : xisN w = true := (List.mem_filter.mp hw).2
    have hb := hts w (List.mem_filter.mp hw).1
    cases w <;> first | exact va_Nw.of rfl hb | cases hi
