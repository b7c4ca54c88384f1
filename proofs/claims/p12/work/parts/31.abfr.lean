/-! what a call's writes leave -/
def ahit (ws : AWr) (r : Nat) (b : Int) : Bool := ws.any fun u => u.1 == r && (decide (u.2.1 ≤ b) && decide (b ≤ u.2.2))
def aunW (ws : AWr) (a : AV) : AV := if 1000 ≤ a.2.2.2.2.2 ∧ ahit ws (a.2.2.2.2.2 / 1000 - 1) ((a.2.2.2.2.2 % 1000 : Nat) : Int) = true then aun a else a
def aforW (ws : AWr) (m : AM) : AM := m.filter fun q => !ahit ws q.1 (q.2.1 : Int)
section AF
variable {W : AW} {E : Nat → Int} {L : XL} {h h1 : XH} {ws : AWr}
theorem ahit_no {r : Nat} {b : Int} (hn : ¬ ahit ws r b = true) : ∀ w ∈ ws, ¬ (w.1 = r ∧ w.2.1 ≤ b ∧ b ≤ w.2.2) := fun w hw hc => hn (List.any_eq_true.mpr ⟨w, hw, by simp [hc.1, hc.2.1, hc.2.2]⟩)
theorem gv.fr {a : AV} {v : Value} (hv : gv W E L h a v) (hf : AFr W ws h h1) : gv W E L h1 (aunW ws a) v := by
  unfold aunW
  split
  · exact gv_un hv
  · rename_i hc
    refine ⟨hv.1, hv.2.1, hv.2.2.1, fun hs z hz hzr => ?_⟩
    rw [hf z _ hz (by rw [hzr]; exact ahit_no fun e => hc ⟨hs, e⟩)]
    exact hv.2.2.2 hs z hz hzr
theorem gst.fr (hf : AFr W ws h h1) : ∀ {s : List AV} {t : List Value}, gst W E L h s t → gst W E L h1 (s.map (aunW ws)) t
  | [], [], _ => trivial
  | [], _ :: _, hs => hs
  | _ :: _, [], hs => hs
  | _ :: _, _ :: _, hs => ⟨hs.1.fr hf, gst.fr hf hs.2⟩
theorem gls.fr {A : List (Option AV)} (hA : gls W E L h A) (hf : AFr W ws h h1) : gls W E L h1 (A.map (Option.map (aunW ws))) := by
  refine ⟨by simpa using hA.1, fun q o ho => ?_⟩
  rw [List.getElem?_map] at ho
  cases hq : A[q]? with
  | none => rw [hq] at ho; cases ho
  | some p =>
    rw [hq] at ho
    cases ho
    obtain ⟨d, hd, hg⟩ := hA.2 q p hq
    refine ⟨d, hd, ?_⟩
    cases p with
    | none => exact hg
    | some a =>
      obtain ⟨u, rfl, hu⟩ := hg
      exact ⟨u, rfl, hu.fr hf⟩
theorem gmem.fr {m : AM} (hm : gmem W h m) (hf : AFr W ws h h1) : gmem W h1 (aforW ws m) := fun q hq z hz hzr => by
  obtain ⟨a1, a2⟩ := List.mem_filter.mp hq
  obtain ⟨x, e, f⟩ := hm q a1 z hz hzr
  refine ⟨x, ?_, f⟩
  rw [hf z q.2.1 hz (by rw [hzr]; exact ahit_no fun e => by rw [e] at a2; cases a2)]
  exact e
end AF
/-- an answer as the alternative has it -/
def aans (W : AW) (o : Option AV) (v : Option Value) : Prop := match o with
  | some a => ∃ x, v = some x ∧ ga W a x
  | none => v = none
def gal (W : AW) : List AV → List Value → Prop
  | [], [] => True
  | a :: s, v :: t => ga W a v ∧ gal W s t
  | _, _ => False
/-- the contract holds -/
def AHo (W : AW) (c : ACn) : Prop := ∀ (as : List Value) (h : XH), AInv W h → gal W c.2.1 as → ∃ v h1, XCall xM c.2.2.2.2 c.1 as h v h1 ∧ AInv W h1 ∧ AFr W c.2.2.2.1 h h1 ∧
  ∃ o ∈ c.2.2.1, aans W o.1 v ∧ gmem W h1 o.2.1 ∧ ∀ q ∈ o.2.2, ∃ x : Int32, as[q.1]? = some (.int x) ∧ q.2.1 ≤ x.toInt ∧ x.toInt ≤ q.2.2
