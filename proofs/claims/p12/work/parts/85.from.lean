theorem x_arr {args : Array Value} {s : State} {ty : FieldType} (h : (Cond.arrayClass ty).before args s = true) : ∃ cA : ClassId, ArrOfT s cA ty ∧ s.vm.findClass ("[" ++ ty.toString) = some cA := by
  obtain ⟨cA, kA, comp, h1, h2, h3⟩ := Cond.arrayClass_spec h
  exact ⟨cA, fun n z => ⟨(fun k h => by cases h), kA, h2, comp, h3⟩, h1⟩
theorem x_arrO {args : Array Value} {s : State} {C : String} (h : (Cond.arrayOver (.object C)).before args s = true) : ∃ cA : ClassId, ArrOfT s cA (.object C) ∧ va_RA s cA (.object C) := by
  obtain ⟨comp, cA, kA, f4, -, f2, f3, f1⟩ := Cond.arrayOver_spec h
  exact ⟨cA, fun N z => ⟨(fun k h => by cases h), kA, f2, comp, f3⟩, kA, comp, f2, f3, f4, f1⟩
theorem x_str {args : Array Value} {s : State} {tm : Term} {N : Nat} {f : Nat → Int32} {A : Nat → Prop} (hN : N < 2 ^ 31) (hex : (Cond.exactly tm "java/lang/String").before args s = true) (hco : (Cond.eq (.field tm "java/lang/String" "coder" "B") (.int 0)).before args s = true) (har : (Cond.arrayOf (.field tm "java/lang/String" "value" "[B") .byte).before args s = true)
    (hle : (Cond.eq (.length (.field tm "java/lang/String" "value" "[B")) (.int (Int32.ofNat N))).before args s = true) (hel : ∀ j : Nat, j < N → (Cond.eq (.elem (.field tm "java/lang/String" "value" "[B") (.int (Int32.ofNat j))) (.int (f j))).before args s = true) (hA : ∀ a : Nat, a < s.heap.size → ¬ A a) :
    ∃ a t : Nat, tm.eval args s none [] s = some (.ref a) ∧ va_O "java/lang/String" a A s s.heap ∧ va_OF "java/lang/String" "coder" "B" (.int 0) a A s s.heap ∧ va_OF "java/lang/String" "value" "[B" (.ref t) a A s s.heap ∧ va_T .byte t N (fun j => .int (f j)) A s s.heap := by
  obtain ⟨a, c, cA, kA, q1, -⟩ := Cond.exactly_spec (args := args) (first := s) (o := none) (s := s) (idx := []) (t := tm) (cls := "java/lang/String") hex
  obtain ⟨t, ht, hT⟩ := va_Tof (f := fun j => .int (f j)) (A := A) hN har (va_eqt hle) (fun j hj => va_eqt (hel j hj)) hA
  exact ⟨a, t, q1, va_Oof hex q1 hA, vk_OFof q1 (va_eqt hco) hA, vk_OFof q1 ht hA, hT⟩
/-- what the machine of places starts from: the classes, the rows' classes, the static row, the script, the constants, the formatter -/
theorem x_G {s : State} {b L : Nat} {xs : Nat → Int32} (hts : ∀ w ∈ lw_tbl, w.before #[Value.ref b] s = true) (hX : va_X b L xs s s.heap) (hbl : b < s.heap.size) (hgv : (Jvm.Cond.and given_1 narrow_1).before #[Value.ref b] s = true) : ∃ (G : XG) (fl : Bool), xHs G = s.heap ∧ xad G 1 = b ∧ (∀ k, k < 13 → xex G k = xg L xs fl k) ∧ xK G s := by
  have hA : ∀ a : Nat, a < s.heap.size → ¬ (fun q : Nat => s.heap.size ≤ q) a := fun a h => Nat.not_le.mpr h
  have hin : ∀ (k : Nat) (q : vw_C), vwCl[k]? = some q → ∃ (cC : ClassId) (iS : Nat → Nat), u_Kn s q.1 q.2.1 q.2.2 cC iS := fun k q hq => by
    match k, hq with
    | 0, hq => cases hq; exact u_known hts (fun w hw => (x_lay0 w hw).1) (hts _ (List.mem_filter.mp x_ins0).1)
    | 1, hq => cases hq; exact u_known hts (fun w hw => (x_lay1 w hw).1) (hts _ (List.mem_filter.mp x_ins1).1)
    | 2, hq => cases hq; exact u_known hts (fun w hw => (x_lay2 w hw).1) (hts _ (List.mem_filter.mp x_ins2).1)
    | 3, hq => cases hq; exact u_known hts (fun w hw => (x_lay3 w hw).1) (hts _ (List.mem_filter.mp x_ins3).1)
    | 4, hq => cases hq; exact u_known hts (fun w hw => (x_lay4 w hw).1) (hts _ (List.mem_filter.mp x_ins4).1)
    | 5, hq => cases hq; exact u_known hts (fun w hw => (x_lay5 w hw).1) (hts _ (List.mem_filter.mp x_ins5).1)
    | 6, hq => cases hq; exact u_known hts (fun w hw => (x_lay6 w hw).1) (hts _ (List.mem_filter.mp x_ins6).1)
    | 7, hq => cases hq; exact u_known hts (fun w hw => (x_lay7 w hw).1) (hts _ (List.mem_filter.mp x_ins7).1)
    | k + 8, hq => cases hq
  have hin2 : ∀ k : Nat, ∃ (cC : ClassId) (iS : Nat → Nat), ∀ q : vw_C, vwCl[k]? = some q → u_Kn s q.1 q.2.1 q.2.2 cC iS := fun k => by
    cases h : vwCl[k]? with
    | none => exact ⟨0, fun _ => 0, fun q hq => by cases hq⟩
    | some q =>
      obtain ⟨cC, iS, h1⟩ := hin k q h
      exact ⟨cC, iS, fun q2 hq => by cases hq; exact h1⟩
  obtain ⟨c0, a0, r0⟩ := x_arr (hts _ (List.mem_filter.mp x_ac_int).1)
  obtain ⟨c1, a1, r1⟩ := x_arr (hts _ (List.mem_filter.mp x_ac_boolean).1)
  have o0 := hts (.arrayOver (.object RX0)) (List.mem_of_getElem? (i := 229) (by decide +kernel))
  have o1 := hts (.arrayOver (.object RX1)) (List.mem_of_getElem? (i := 140) (by decide +kernel))
  obtain ⟨c2, a2, r2⟩ := x_arrO o0
  obtain ⟨c3, a3, r3⟩ := x_arrO o1
  have hs := flat_of_before _ hgv
  obtain ⟨t, ht, hT⟩ := va_Tof (tm := .static RX6 "ABOVE" "[I") (ty := .int) (N := 7) (f := fun j => .int (xab j)) (A := fun q : Nat => s.heap.size ≤ q) (by decide) (hs _ (by decide +kernel)) (va_eqt (hs (Cond.eq (.length (.static RX6 "ABOVE" "[I")) (.int 7)) (by decide +kernel))) (fun j hj => by
    match j, hj with
    | 0, _ => exact va_eqt (z := -1) (hs _ (by decide +kernel))
    | 1, _ => exact va_eqt (z := 0) (hs _ (by decide +kernel))
    | 2, _ => exact va_eqt (z := 0) (hs _ (by decide +kernel))
    | 3, _ => exact va_eqt (z := 0) (hs _ (by decide +kernel))
    | 4, _ => exact va_eqt (z := 2) (hs _ (by decide +kernel))
    | 5, _ => exact va_eqt (z := 2) (hs _ (by decide +kernel))
    | 6, _ => exact va_eqt (z := 3) (hs _ (by decide +kernel))
    | k + 7, h => exact absurd h (by omega)) hA
  have hZ := va_Zof (C := RX6) (n := "ABOVE") (d := "[I") (v := .ref t) (A := fun q : Nat => s.heap.size ≤ q) (hts _ (List.mem_of_getElem? (i := 818) (by decide +kernel))) (hts _ (List.mem_filter.mp x_ini6).1) ht hA
  have hCS := va_Zof (C := "java/lang/String") (n := "COMPACT_STRINGS") (d := "Z") (v := .int 1) (A := fun q : Nat => s.heap.size ≤ q) (hts _ (List.mem_of_getElem? (i := 535) (by decide +kernel))) (hts _ (List.mem_of_getElem? (i := 119) (by decide +kernel))) (va_eqt (hs (Cond.eq (.static "java/lang/String" "COMPACT_STRINGS" "Z") (.int 1)) (by decide +kernel))) hA
  obtain ⟨fm, fl, hFm⟩ : ∃ (fm : Nat) (fl : Bool), va_Z "jdk/internal/util/Preconditions" "SIOOBE_FORMATTER" "Ljava/util/function/BiFunction;" (if fl = true then .ref fm else .null) (fun q : Nat => s.heap.size ≤ q) s s.heap := by
    rcases va_Zqof (C := "jdk/internal/util/Preconditions") (n := "SIOOBE_FORMATTER") (d := "Ljava/util/function/BiFunction;") (A := fun q : Nat => s.heap.size ≤ q) (hts _ (List.mem_of_getElem? (i := 551) (by decide +kernel))) (hts _ (List.mem_of_getElem? (i := 121) (by decide +kernel))) (hs _ (by decide +kernel)) hA with h | ⟨fm, h⟩
    · exact ⟨0, false, h⟩
    · exact ⟨fm, true, h⟩
  obtain ⟨k0, v0, e0, s0⟩ := x_str (tm := .string "LifeGrants$Reader" 68) (N := 4) (f := fun j => (xsb 0).getD j 0) (A := fun q : Nat => s.heap.size ≤ q) (by decide) (hs _ (by decide +kernel)) (hs _ (by decide +kernel)) (hs _ (by decide +kernel)) (hs _ (by decide +kernel)) (fun j hj => by
    match j, hj with
    | 0, _ => exact hs _ (by decide +kernel)
    | 1, _ => exact hs _ (by decide +kernel)
    | 2, _ => exact hs _ (by decide +kernel)
    | 3, _ => exact hs _ (by decide +kernel)
    | k + 4, h => exact absurd h (by omega)) hA
  have r0_ := vk_R.of (hts (.stringRef "LifeGrants$Reader" 68 "life") (List.mem_of_getElem? (i := 521) (by decide +kernel))) e0
  obtain ⟨k1, v1, e1, s1⟩ := x_str (tm := .string "LifeGrants$Reader" 74) (N := 4) (f := fun j => (xsb 1).getD j 0) (A := fun q : Nat => s.heap.size ≤ q) (by decide) (hs _ (by decide +kernel)) (hs _ (by decide +kernel)) (hs _ (by decide +kernel)) (hs _ (by decide +kernel)) (fun j hj => by
    match j, hj with
    | 0, _ => exact hs _ (by decide +kernel)
    | 1, _ => exact hs _ (by decide +kernel)
    | 2, _ => exact hs _ (by decide +kernel)
    | 3, _ => exact hs _ (by decide +kernel)
    | k + 4, h => exact absurd h (by omega)) hA
  have r1_ := vk_R.of (hts (.stringRef "LifeGrants$Reader" 74 "ever") (List.mem_of_getElem? (i := 574) (by decide +kernel))) e1
  obtain ⟨k2, v2, e2, s2⟩ := x_str (tm := .string "LifeGrantsModel" 115) (N := 4) (f := fun j => (xsb 2).getD j 0) (A := fun q : Nat => s.heap.size ≤ q) (by decide) (hs _ (by decide +kernel)) (hs _ (by decide +kernel)) (hs _ (by decide +kernel)) (hs _ (by decide +kernel)) (fun j hj => by
    match j, hj with
    | 0, _ => exact hs _ (by decide +kernel)
    | 1, _ => exact hs _ (by decide +kernel)
    | 2, _ => exact hs _ (by decide +kernel)
    | 3, _ => exact hs _ (by decide +kernel)
    | k + 4, h => exact absurd h (by omega)) hA
  have r2_ := vk_R.of (hts (.stringRef "LifeGrantsModel" 115 "life") (List.mem_of_getElem? (i := 1020) (by decide +kernel))) e2
  obtain ⟨k3, v3, e3, s3⟩ := x_str (tm := .string "LifeGrantsModel" 121) (N := 4) (f := fun j => (xsb 3).getD j 0) (A := fun q : Nat => s.heap.size ≤ q) (by decide) (hs _ (by decide +kernel)) (hs _ (by decide +kernel)) (hs _ (by decide +kernel)) (hs _ (by decide +kernel)) (fun j hj => by
    match j, hj with
    | 0, _ => exact hs _ (by decide +kernel)
    | 1, _ => exact hs _ (by decide +kernel)
    | 2, _ => exact hs _ (by decide +kernel)
    | 3, _ => exact hs _ (by decide +kernel)
    | k + 4, h => exact absurd h (by omega)) hA
  have r3_ := vk_R.of (hts (.stringRef "LifeGrantsModel" 121 "ever") (List.mem_of_getElem? (i := 1027) (by decide +kernel))) e3
  obtain ⟨k4, v4, e4, s4⟩ := x_str (tm := .string "LifeGrantsModel" 129) (N := 4) (f := fun j => (xsb 4).getD j 0) (A := fun q : Nat => s.heap.size ≤ q) (by decide) (hs _ (by decide +kernel)) (hs _ (by decide +kernel)) (hs _ (by decide +kernel)) (hs _ (by decide +kernel)) (fun j hj => by
    match j, hj with
    | 0, _ => exact hs _ (by decide +kernel)
    | 1, _ => exact hs _ (by decide +kernel)
    | 2, _ => exact hs _ (by decide +kernel)
    | 3, _ => exact hs _ (by decide +kernel)
    | k + 4, h => exact absurd h (by omega)) hA
  have r4_ := vk_R.of (hts (.stringRef "LifeGrantsModel" 129 " if ") (List.mem_of_getElem? (i := 1028) (by decide +kernel))) e4
  refine ⟨((fun k => Classical.choose (hin2 k), fun k => Classical.choose (Classical.choose_spec (hin2 k))), (fun k => if k = 0 then c0 else if k = 1 then c1 else if k = 2 then c2 else c3), (fun k => match k with
    | 0 => t
    | 1 => b
    | 2 => k0
    | 3 => k1
    | 4 => k2
    | 5 => k3
    | 6 => k4
    | 7 => v0
    | 8 => v1
    | 9 => v2
    | 10 => v3
    | 11 => v4
    | _ => fm), s.heap, (fun k => if k = 0 then (7, xab) else if k = 1 then (L, xs) else (if fl = true then 0 else 1, fun _ => 0))), fl, rfl, rfl, fun k hk => ?_, ⟨fun k q hq => Classical.choose_spec (Classical.choose_spec (hin2 k)) q hq, fun k q hq => ?_⟩, fun k hk => ?_, ⟨hZ, hCS, ?_, fun i hi => ?_⟩, va_AO.of o0, va_AO.of o1, fun w hw => ?_⟩
  · match k, hk with
    | 0, _ => rfl
    | 1, _ => rfl
    | 2, _ => rfl
    | 3, _ => rfl
    | 4, _ => rfl
    | 5, _ => rfl
    | 6, _ => rfl
    | 7, _ => rfl
    | 8, _ => rfl
    | 9, _ => rfl
    | 10, _ => rfl
    | 11, _ => rfl
    | 12, _ => cases fl <;> rfl
    | k + 13, h => exact absurd h (by omega)
  · match k, hq with
    | 0, hq => cases hq; exact ⟨a0, r0⟩
    | 1, hq => cases hq; exact ⟨a1, r1⟩
    | 2, hq => cases hq; exact ⟨a2, r2⟩
    | 3, hq => cases hq; exact ⟨a3, r3⟩
    | k + 4, hq => cases hq
  · match k, hk with
    | 0, _ => exact hT
    | 1, _ =>
      obtain ⟨scr, e1, e2, e3, e4, e5⟩ := hX
      exact ⟨scr, e1, e2, e3, Nat.le_of_eq e4.symm, by rw [e4]; rfl, e5, hA b hbl⟩
    | k + 2, h => exact absurd h (by omega)
  · cases fl
    · exact hFm
    · exact hFm
  · match i, hi with
    | 0, _ => exact ⟨r0_, s0⟩
    | 1, _ => exact ⟨r1_, s1⟩
    | 2, _ => exact ⟨r2_, s2⟩
    | 3, _ => exact ⟨r3_, s3⟩
    | 4, _ => exact ⟨r4_, s4⟩
    | k + 5, h => exact absurd h (by omega)
  · have hi : xisN w = true := (List.mem_filter.mp hw).2
    have hb := hts w (List.mem_filter.mp hw).1
    cases w <;> first | exact va_Nw.of rfl hb | cases hi
