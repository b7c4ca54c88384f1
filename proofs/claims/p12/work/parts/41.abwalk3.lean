/-! a cut reached, a return -/
theorem XRuns.app {M : XMeth} {call : XCl} : ∀ (n : Nat) {k : Nat} {a b c : XC}, XRuns xM call M n a b → XRuns xM call M k b c → XRuns xM call M (n + k) a c
  | 0, k, a, b, c, h1, h2 => by
    cases h1
    rw [Nat.zero_add]
    exact h2
  | n + 1, k, a, b, c, ⟨e, h1, h2⟩, h3 => by
    rw [show n + 1 + k = (n + k) + 1 by omega]
    exact ⟨e, h1, XRuns.app n h2 h3⟩
def ark (L : XL) (c : ACut) : Int := c.2.1 + lin (eF L) 0 c.2.2
section AW
variable {W : AW} {P : Nat × List APr} {E : Nat → Int} {q : AX} {c : XC}
theorem acutok_ok {R0 : Option (Int × List Int × List (Option AV))} {cut : ACut} (hg : AXh W P E q c) (ha : acutok R0 q cut = true) (h2 : cut.1.2.2.1.all acln = true) : (c.1 = cut.1.1 ∧ gpl W cut.1.2.1 c.2.1 ∧ (∀ E2, gst W E2 c.2.1 c.2.2.2 cut.1.2.2.1 c.2.2.1) ∧ gmem W c.2.2.2 cut.1.2.2.2 ∧ AInv W c.2.2.2 ∧ PInv W P c.2.2.2 []) ∧ ∀ k0 v0 A0, R0 = some (k0, v0, A0) → ebd E 0 A0 → ark c.2.1 cut + 1 ≤ k0 + lin E 0 v0 := by
  unfold acutok at ha
  simp only [Bool.and_eq_true] at ha
  obtain ⟨a1, a2, a3, a4, a5, a6⟩ := ha
  obtain ⟨g1, ⟨hA, hS, hm, hI⟩, g3⟩ := hg
  have e1 := Nat.eq_of_beq_eq_true a1
  have k := aentL_ok (n := 0) (fun i o ho => by rw [Nat.zero_add]; exact hA.2 i o ho) a3
  have hsu : q.1 = [] := List.isEmpty_iff.mp a2
  rw [hsu] at g3
  refine ⟨⟨g1.trans e1.symm, ⟨k.1.symm.trans hA.1, fun i o ho => ?_⟩, fun E2 => alls_clean hS a4 h2, ament_all hm a5, hI, g3⟩, fun k0 v0 A0 hR hb => ?_⟩
  · have := k.2 i o ho
    rw [Nat.zero_add] at this
    exact this
  · subst hR
    unfold arank at a6
    dsimp only at a6
    split at a6
    · rename_i v kk hq
      split at a6
      · rename_i z hz
        have a6 := of_decide_eq_true a6
        have f1 := alow_ok (E := E) (n := 0) hb hz
        have f2 := arkq_ok (E := E) (F := eF c.2.1) (n := 0) hA.gpl.ebd (fun i a h0 h1 h2 => by
          obtain ⟨d, hd, v, rfl, hv⟩ := hA.2 i _ h0
          obtain ⟨x, rfl, e⟩ := hv.2.1 h1 h2
          rw [Nat.zero_add]
          unfold eF
          rw [hd]
          exact e) hq
        unfold ark
        omega
      · cases a6
    · cases a6
/-- what a return shows: the answer, the memo, the arguments' bounds by E where the walk began at the entry -/
def ARes (W : AW) (P : Nat × List APr) (M : XMeth) (ct : ACt) (ent : Bool) (E : Nat → Int) (c : XC) : Prop := ∃ v, XRet M c v ∧ AInv W c.2.2.2 ∧ PInv W P c.2.2.2 [] ∧ ∃ o ∈ ct.1.2.2.1, aansH W c.2.2.2 o.1 v ∧ gmem W c.2.2.2 o.2.1 ∧ ∀ u ∈ o.2.2, ent = true ∧ (∃ b, ct.1.2.1[u.1]? = some b ∧ b.1 = 0) ∧ u.2.1 ≤ E (aslo ct.1.2.1 u.1) ∧ E (aslo ct.1.2.1 u.1) ≤ u.2.2
theorem aalt1_ok {pre : List AV} {ent : Bool} {x : Option AV} {A : List (Option AV)} {m : AM} {o : AAlt} {v : Option Value} {L : XL} {h : XH} (hA : gls W E L h A) (hm : gmem W h m) (hx : match x with
    | some a => ∃ w, v = some w ∧ gv W E L h a w
    | none => v = none) (ha : aalt1 pre ent x A m o = true) : aansH W h o.1 v ∧ gmem W h o.2.1 ∧ ∀ u ∈ o.2.2, ent = true ∧ (∃ b, pre[u.1]? = some b ∧ b.1 = 0) ∧ u.2.1 ≤ E (aslo pre u.1) ∧ E (aslo pre u.1) ≤ u.2.2 := by
  unfold aalt1 at ha
  simp only [Bool.and_eq_true] at ha
  obtain ⟨a1, a2, a3⟩ := ha
  refine ⟨?_, ament_all hm a2, fun u hu => ?_⟩
  · unfold aansH aans
    cases ho : o.1 with
    | none =>
      rw [ho] at a1
      cases x with
      | none => exact ⟨hx, trivial⟩
      | some a => cases a1
    | some b =>
      rw [ho] at a1
      cases x with
      | none => cases a1
      | some a =>
        obtain ⟨w, rfl, hw⟩ := hx
        have a1 : (ale a b && (Nat.blt b.2.2.2.2.2 1000 || Nat.beq b.2.2.2.2.2 a.2.2.2.2.2)) = true := a1
        simp only [Bool.and_eq_true, Bool.or_eq_true] at a1
        refine ⟨⟨w, rfl, ale_ok a1.1 hw.1⟩, fun hb => ?_⟩
        have e : b.2.2.2.2.2 = a.2.2.2.2.2 := a1.2.elim (fun z => absurd (Nat.le_of_ble_eq_true z) (by omega)) Nat.eq_of_beq_eq_true
        rw [e] at hb ⊢
        exact hw.2.2.2 hb
  · have k := List.all_eq_true.mp a3 u hu
    simp only [Bool.and_eq_true] at k
    obtain ⟨k1, k2, k3⟩ := k
    refine ⟨k1, ?_, ?_⟩
    · split at k2
      · rename_i b hb
        exact ⟨b, hb, by simpa using k2⟩
      · cases k2
    · split at k3
      · rename_i a hq
        simp only [Bool.and_eq_true, beq_iff_eq, decide_eq_true_eq] at k3
        obtain ⟨q1, q2, q3, q4, q5⟩ := k3
        obtain ⟨d, hd, w, rfl, hw⟩ := hA.2 _ _ hq
        obtain ⟨z, rfl, z1, z2⟩ := ga_int q1 hw.1
        obtain ⟨y, hy, y1⟩ := hw.2.1 q1 (by omega)
        cases hy
        rw [q2, q3, Nat.add_sub_cancel, Int.add_zero] at y1
        omega
      · cases k3
theorem aztr_ok {ty : FieldType} {a : AV} {x : Int32} (hx : gi a x) (h : aztr ty a = true) : narrow ty (.int x) = .int x := by
  obtain ⟨x1, x2⟩ := hx
  unfold aztr at h
  split at h
  · rfl
  · simp only [Bool.and_eq_true, decide_eq_true_eq] at h
    rcases i32_01 (x := x) (by omega) (by omega) with rfl | rfl
    · rfl
    · rfl
  · simp only [Bool.and_eq_true, decide_eq_true_eq] at h
    show Value.int x.toUInt32.toUInt16.toUInt32.toInt32 = .int x
    congr 1
    have e1 := i32_nat x
    have e2 := i32_nat x.toUInt32.toUInt16.toUInt32.toInt32
    have e3 : x.toUInt32.toUInt16.toUInt32.toInt32.toBitVec.toNat = x.toBitVec.toNat % 65536 := by
      show x.toUInt32.toUInt16.toUInt32.toNat = _
      rw [UInt16.toNat_toUInt32, UInt32.toNat_toUInt16]
      rfl
    have e4 := x.toBitVec.isLt
    rw [e3] at e2
    refine Int32.toInt_inj.mp ?_
    split at e1
    · split at e2 <;> omega
    · omega
  · simp only [Bool.and_eq_true, decide_eq_true_eq] at h
    have e : x = 0 := i32_is (n := 0) (by omega) (by omega)
    subst e
    rfl
  · cases h
theorem gst_1 {L : XL} {h : XH} {x : AV} {st : List Value} (hs : gst W E L h [x] st) : ∃ v, st = [v] ∧ gv W E L h x v := by
  cases st with
  | nil => exact hs.elim
  | cons v t => cases t with
    | nil => exact ⟨v, rfl, hs.1⟩
    | cons _ _ => exact hs.2.elim
theorem gst_0 {L : XL} {h : XH} {st : List Value} (hs : gst W E L h [] st) : st = [] := by
  cases st with
  | nil => rfl
  | cons _ _ => exact hs.elim
theorem aret_ok {M : XMeth} {ct : ACt} {ent : Bool} {r : XRow} (hr : r ∈ xmT M) (hpc : r.1 = q.2.1) (hg : AXh W P E q c) (ha : aret M ct ent r.2.1 q = true) : ARes W P M ct ent E c := by
  obtain ⟨su, pc, A, S, m⟩ := q
  obtain ⟨cp, L, st, h⟩ := c
  obtain ⟨g1, ⟨hA, hS, hm, hI⟩, g3⟩ := hg
  dsimp only at g1 hA hS hm hI g3 hpc
  unfold aret at ha
  rw [Bool.and_eq_true] at ha
  obtain ⟨a1, a2⟩ := ha
  have hsu : su = [] := List.isEmpty_iff.mp a1
  subst hsu
  have hp1 : r.1 = cp := hpc.trans g1.symm
  split at a2
  · rename_i hi
    dsimp only at a2
    split at a2
    · rename_i x
      simp only [Bool.and_eq_true, beq_iff_eq] at a2
      obtain ⟨b1, b2, b3⟩ := a2
      obtain ⟨v, rfl, hv⟩ := gst_1 hS
      obtain ⟨z, rfl, iz⟩ := ga_int b1 hv.1
      obtain ⟨o, ho, k⟩ := List.any_eq_true.mp b3
      split at b2
      · rename_i ty hty
        exact ⟨some (.int z), ⟨r, hr, hp1, Or.inl ⟨hi, z, ty, rfl, rfl, hty, aztr_ok iz b2⟩⟩, hI, g3, o, ho, aalt1_ok (x := some x) hA hm ⟨_, rfl, hv⟩ k⟩
      · cases b2
    · cases a2
  · rename_i hi
    dsimp only at a2
    split at a2
    · rename_i x
      simp only [Bool.and_eq_true, beq_iff_eq] at a2
      obtain ⟨b1, b2, b3⟩ := a2
      obtain ⟨v, rfl, hv⟩ := gst_1 hS
      obtain ⟨z, rfl⟩ := ga_1 b1 hv.1
      obtain ⟨o, ho, k⟩ := List.any_eq_true.mp b3
      split at b2
      · rename_i hty
        exact ⟨some (.long z), ⟨r, hr, hp1, Or.inr (Or.inl ⟨hi, z, rfl, rfl, hty⟩)⟩, hI, g3, o, ho, aalt1_ok (x := some x) hA hm ⟨_, rfl, hv⟩ k⟩
      · cases b2
    · cases a2
  · rename_i hi
    dsimp only at a2
    split at a2
    · rename_i x
      simp only [Bool.and_eq_true] at a2
      obtain ⟨b1, b2, b3⟩ := a2
      obtain ⟨v, rfl, hv⟩ := gst_1 hS
      obtain ⟨o, ho, k⟩ := List.any_eq_true.mp b3
      split at b2
      · rename_i n hty
        exact ⟨some v, ⟨r, hr, hp1, Or.inr (Or.inr (Or.inl ⟨hi, v, n, rfl, rfl, ga_ref b1 hv.1, hty⟩))⟩, hI, g3, o, ho, aalt1_ok (x := some x) hA hm ⟨_, rfl, hv⟩ k⟩
      · cases b2
    · cases a2
  · rename_i hi
    dsimp only at a2
    split at a2
    · simp only [Bool.and_eq_true] at a2
      obtain ⟨b2, b3⟩ := a2
      have hs0 := gst_0 hS
      obtain ⟨o, ho, k⟩ := List.any_eq_true.mp b3
      split at b2
      · rename_i hty
        exact ⟨none, ⟨r, hr, hp1, Or.inr (Or.inr (Or.inr ⟨hi, hs0, rfl, hty⟩))⟩, hI, g3, o, ho, aalt1_ok (x := none) hA hm rfl k⟩
      · cases b2
    · cases a2
  · cases a2
end AW
