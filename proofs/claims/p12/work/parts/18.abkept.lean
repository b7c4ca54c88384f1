/-! what a write leaves -/
section AK
variable {W : AW} {E : Nat → Int} {L : XL} {h h1 : XH} {k b r : Nat} {v : Value}
theorem AInv.wrote {s : AV} (hI : AInv W h) (hw : AWrote h h1 k b v) (hs : shA (W.2.1 (W.1 k)) b = some s) (hv : ga W s v) : AInv W h1 := by
  obtain ⟨i1, i2, i3⟩ := hI
  obtain ⟨w1, w2, w3, w4, w5⟩ := hw
  refine ⟨w1.trans i1, w2.trans i2, fun j hj => ⟨w5 _ j (i3 j hj).1, fun i a ha => ?_⟩⟩
  by_cases hji : j = k ∧ i = b
  · obtain ⟨rfl, rfl⟩ := hji
    rw [hs] at ha
    cases ha
    exact ⟨v, w3, hv⟩
  · rw [w4 j i hji]
    exact (i3 j hj).2 i a ha
theorem aforget_mem {m : AM} {q : Nat × Nat × Int × Int} {i j : Int} (h : q ∈ aforget m r i j) : q ∈ m ∧ (q.1 = r → ¬ (i ≤ (q.2.1 : Int) ∧ (q.2.1 : Int) ≤ j)) := by
  unfold aforget at h
  obtain ⟨h1, h2⟩ := List.mem_filter.mp h
  refine ⟨h1, fun e hc => ?_⟩
  subst e
  simp [hc.1, hc.2] at h2
theorem gmem.forget {m : AM} {i j : Int} (hm : gmem W h m) : gmem W h (aforget m r i j) := fun q hq => hm q (aforget_mem hq).1
theorem gmem.wrote {m : AM} {i j : Int} (hm : gmem W h m) (hw : AWrote h h1 k b v) (hr : W.1 k = r) (e1 : i ≤ (b : Int)) (e2 : (b : Int) ≤ j) : gmem W h1 (aforget m r i j) := fun q hq z hz hzr => by
  obtain ⟨a1, a2⟩ := aforget_mem hq
  obtain ⟨x, e, f⟩ := hm q a1 z hz hzr
  refine ⟨x, ?_, f⟩
  rw [hw.2.2.2.1 z q.2.1 (fun hc => a2 (by rw [← hzr, hc.1]; exact hr) (by rw [hc.2]; exact ⟨e1, e2⟩))]
  exact e
theorem gmem.cons {m : AM} {lo hi : Int} (hw : AWf W) (h9 : W.2.2.1 r = true) (hm : gmem W h m) (hk : k < W.2.2.2.1) (hr : W.1 k = r) {x : Int32} (hv : rd h k b = some (.int x)) (b1 : lo ≤ x.toInt) (b2 : x.toInt ≤ hi) : gmem W h ((r, b, lo, hi) :: m) := fun q hq z hz hzr => by
  rcases List.mem_cons.mp hq with rfl | hq
  · rw [hw.1 r h9 z k hz hk hzr hr]
    exact ⟨x, hv, b1, b2⟩
  · exact hm q hq z hz hzr
theorem gmem.write {m : AM} {a : AV} (hwf : AWf W) (hm : gmem W h m) (hw : AWrote h h1 k b v) (hk : k < W.2.2.2.1) (hr : W.1 k = r) (hv : ga W a v) : gmem W h1 (awrite W m r b a) := by
  have k0 := hm.wrote hw hr (Int.le_refl (b : Int)) (Int.le_refl (b : Int))
  unfold awrite
  split
  · rename_i hc
    obtain ⟨x, rfl, b1, b2⟩ := ga_int hc.1 hv
    exact k0.cons hwf hc.2 hk hr hw.2.2.1 b1 b2
  · exact k0
theorem ga_un {a : AV} {v : Value} (h : ga W a v) : ga W (aun a) v := h
theorem gv_un {L2 : XL} {a : AV} {v : Value} (hv : gv W E L h a v) : gv W E L2 h1 (aun a) v := ⟨hv.1, hv.2.1, fun h => absurd (show 0 < 0 from h) (by decide), fun h => absurd (show 1000 ≤ 0 from h) (by decide)⟩
theorem gv.wrote {a : AV} {u : Value} {i j : Int} (hv : gv W E L h a u) (hw : AWrote h h1 k b v) (hr : W.1 k = r) (e1 : i ≤ (b : Int)) (e2 : (b : Int) ≤ j) : gv W E L h1 (aunK r i j a) u := by
  unfold aunK
  split
  · exact gv_un hv
  · rename_i hc
    refine ⟨hv.1, hv.2.1, hv.2.2.1, fun hs z hz hzr => ?_⟩
    rw [hw.2.2.2.1 z _ (fun e => hc ⟨hs, by rw [← hzr, e.1]; exact hr, by rw [e.2]; exact e1, by rw [e.2]; exact e2⟩)]
    exact hv.2.2.2 hs z hz hzr
theorem gst.wrote {i j : Int} (hw : AWrote h h1 k b v) (hr : W.1 k = r) (e1 : i ≤ (b : Int)) (e2 : (b : Int) ≤ j) : ∀ {s : List AV} {t : List Value}, gst W E L h s t → gst W E L h1 (s.map (aunK r i j)) t
  | [], [], _ => trivial
  | [], _ :: _, hs => hs
  | _ :: _, [], hs => hs
  | a :: s, u :: t, hs => ⟨hs.1.wrote hw hr e1 e2, gst.wrote hw hr e1 e2 hs.2⟩
theorem gls.wrote {A : List (Option AV)} {i j : Int} (hA : gls W E L h A) (hw : AWrote h h1 k b v) (hr : W.1 k = r) (e1 : i ≤ (b : Int)) (e2 : (b : Int) ≤ j) : gls W E L h1 (A.map (Option.map (aunK r i j))) := by
  refine ⟨by simpa using hA.1, fun q o ho => ?_⟩
  rw [List.getElem?_map] at ho
  cases hq : A[q]? with
  | none => rw [hq] at ho; cases ho
  | some p =>
    rw [hq] at ho
    cases ho
    obtain ⟨d, hd, hg⟩ := hA.2 q p hq
    refine ⟨d, hd, ?_⟩
    cases p with
    | none => exact hg
    | some a =>
      obtain ⟨u, rfl, hu⟩ := hg
      exact ⟨u, rfl, hu.wrote hw hr e1 e2⟩
theorem AFr.wrote {ws : AWr} {i j : Int} (hw : AWrote h h1 k b v) (e1 : i ≤ (b : Int)) (e2 : (b : Int) ≤ j) (hin : ∃ u ∈ ws, u.1 = W.1 k ∧ u.2.1 ≤ i ∧ j ≤ u.2.2) : AFr W ws h h1 := fun z c hz hc => hw.2.2.2.1 z c fun e => by
  obtain ⟨u, hu, g1, g2, g3⟩ := hin
  refine hc u hu ⟨by rw [g1, e.1], ?_, ?_⟩
  · rw [e.2]; omega
  · rw [e.2]; omega
/-! a local written -/
theorem gv.setL {a : AV} {u : Value} {n : Nat} {d : Option Value} (hv : gv W E L h a u) : gv W E (L.set n d) h (aunS (n + 1) a) u := by
  unfold aunS
  split
  · exact gv_un hv
  · rename_i hc
    refine ⟨hv.1, hv.2.1, fun h0 h1 => ?_, hv.2.2.2⟩
    rw [List.getElem?_set_ne (by omega)]
    exact hv.2.2.1 h0 h1
end AK
