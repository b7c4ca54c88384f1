/-! switches by the number's bounds -/
def atgt (pc : Nat) (x : AV) (A : List (Option AV)) (S : List AV) (m : AM) : Int → List Int → List AS
  | _, [] => []
  | k, o :: t => if x.2.1 ≤ k ∧ k ≤ x.2.2.1 then (((pc : Int) + o).toNat, A, S, m) :: atgt pc x A S m (k + 1) t else atgt pc x A S m (k + 1) t
def altgt (pc : Nat) (x : AV) (A : List (Option AV)) (S : List AV) (m : AM) : List (Int × Int) → List AS
  | [] => []
  | (k, o) :: t => if x.2.1 ≤ k ∧ k ≤ x.2.2.1 then (((pc : Int) + o).toNat, A, S, m) :: altgt pc x A S m t else altgt pc x A S m t
def aztsw2 (pc : Nat) (df lo hi : Int) (offs : Array Int) (A : List (Option AV)) (S : List AV) (m : AM) : Option (List AS) := match S with
  | x :: r => if x.1 = 0 ∧ 0 ≤ (pc : Int) + df ∧ ((offs.size : Nat) : Int) = hi - lo + 1 ∧ (offs.toList.all fun o => decide (0 ≤ (pc : Int) + o)) = true then some (if lo ≤ x.2.1 ∧ x.2.2.1 ≤ hi then atgt pc x A r m lo offs.toList else (((pc : Int) + df).toNat, A, r, m) :: atgt pc x A r m lo offs.toList) else none
  | _ => none
def azlsw (pc : Nat) (df : Int) (ps : Array (Int × Int)) (A : List (Option AV)) (S : List AV) (m : AM) : Option (List AS) := match S with
  | x :: r => if x.1 = 0 ∧ 0 ≤ (pc : Int) + df ∧ (ps.toList.all fun o => decide (0 ≤ (pc : Int) + o.2)) = true then some ((((pc : Int) + df).toNat, A, r, m) :: altgt pc x A r m ps.toList) else none
  | _ => none
/-- rows of ints, both from their beginning -/
def azcp (W : AW) (ws : AWr) (q : Nat) (A : List (Option AV)) (S : List AV) (m : AM) : Option (List AS) := match S with
  | n :: dp :: a :: sp :: b :: r => if n.1 = 0 ∧ dp.1 = 0 ∧ a.1 = 2 ∧ sp.1 = 0 ∧ b.1 = 2 ∧ n.2.1 = n.2.2.1 ∧ 0 ≤ n.2.1 ∧ dp.2.1 = 0 ∧ dp.2.2.1 = 0 ∧ sp.2.1 = 0 ∧ sp.2.2.1 = 0 ∧ 13 ≤ a.2.2.2.1 ∧ 13 ≤ b.2.2.2.1 ∧
      (W.2.1 a.2.2.2.1).1 = 1 ∧ (W.2.1 b.2.2.2.1).1 = 1 ∧ (W.2.1 a.2.2.2.1).2.1 = 0 ∧ (W.2.1 b.2.2.2.1).2.1 = 0 ∧ n.2.1 ≤ ((W.2.1 a.2.2.2.1).2.2.1 : Int) ∧ n.2.1 ≤ ((W.2.1 b.2.2.2.1).2.2.1 : Int) ∧ (W.2.1 a.2.2.2.1).2.2.2.2 = (W.2.1 b.2.2.2.1).2.2.2.2 ∧ azin ws a.2.2.2.1 0 (n.2.1 - 1) = true ∧ r.length ≤ 4 then
      some [(q, A.map (Option.map (aunW [(a.2.2.2.1, 0, n.2.1 - 1)])), r.map (aunW [(a.2.2.2.1, 0, n.2.1 - 1)]), aforW [(a.2.2.2.1, 0, n.2.1 - 1)] m)] else none
  | _ => none
theorem atgt_in {pc : Nat} {x : AV} {A : List (Option AV)} {S : List AV} {m : AM} {o : Int} : ∀ {l : List Int} {k : Int} {j : Nat}, l[j]? = some o → x.2.1 ≤ k + (j : Int) → k + (j : Int) ≤ x.2.2.1 → (((pc : Int) + o).toNat, A, S, m) ∈ atgt pc x A S m k l
  | [], _, _, h, _, _ => by cases h
  | p :: t, k, 0, h, h1, h2 => by
    cases h
    unfold atgt
    rw [if_pos ⟨by omega, by omega⟩]
    exact List.mem_cons_self
  | p :: t, k, j + 1, h, h1, h2 => by
    unfold atgt
    have ih := atgt_in (pc := pc) (x := x) (A := A) (S := S) (m := m) (l := t) (k := k + 1) (j := j) h (by omega) (by omega)
    split
    · exact List.mem_cons_of_mem _ ih
    · exact ih
theorem altgt_in {pc : Nat} {x : AV} {A : List (Option AV)} {S : List AV} {m : AM} {d z : Int} (h1 : x.2.1 ≤ z) (h2 : z ≤ x.2.2.1) : ∀ (l : List (Int × Int)), Op.lookupswitch.offset l d z = d ∨ ∃ o ∈ l, Op.lookupswitch.offset l d z = o.2 ∧ (((pc : Int) + o.2).toNat, A, S, m) ∈ altgt pc x A S m l
  | [] => Or.inl rfl
  | (k, o) :: t => by
    rw [Op.lookupswitch.offset_cons]
    by_cases hk : k = z
    · rw [if_pos hk]
      refine Or.inr ⟨(k, o), List.mem_cons_self, rfl, ?_⟩
      unfold altgt
      rw [if_pos ⟨by omega, by omega⟩]
      exact List.mem_cons_self
    · rw [if_neg hk]
      rcases altgt_in (pc := pc) (A := A) (S := S) (m := m) (d := d) h1 h2 t with e | ⟨q, hq, e, hm⟩
      · exact Or.inl e
      · refine Or.inr ⟨q, List.mem_cons_of_mem _ hq, e, ?_⟩
        unfold altgt
        split
        · exact List.mem_cons_of_mem _ hm
        · exact hm
section AN
variable {W : AW} {E : Nat → Int} {L : XL} {h : XH} {A : List (Option AV)} {S : List AV} {m : AM} {st : List Value} {l : List AS} {a b pc q : Nat} {ws : AWr}
theorem aztsw2_ok {df lo hi : Int} {offs : Array Int} (hg : gss W E A S m L st h) (ha : aztsw2 pc df lo hi offs A S m = some l) : ∃ o, xst (.tableswitch df lo hi offs) a b pc L st h = some o ∧ aout W E h l o := by
  unfold aztsw2 at ha
  split at ha
  · rename_i ax S2
    split at ha
    · rename_i hc
      obtain ⟨v, r, rfl, hv, hg1⟩ := hg.pop
      obtain ⟨x, rfl, ix⟩ := ga_int hc.1 hv.1
      have i1 := ix.1
      have i2 := ix.2
      cases ha
      by_cases hx : x.toInt < lo ∨ hi < x.toInt
      · refine ⟨(((pc : Int) + df).toNat, L, r), ?_, (((pc : Int) + df).toNat, A, S2, m), ?_, rfl, hg1⟩
        · simp only [xst]
          rw [if_pos hx, if_pos hc.2.1]
        · rw [if_neg (by omega)]
          exact List.mem_cons_self
      · have hsz := hc.2.2.1
        have hi2 : (x.toInt - lo).toNat < offs.size := by omega
        have ho : offs[(x.toInt - lo).toNat]? = some offs[(x.toInt - lo).toNat] := Array.getElem?_eq_getElem hi2
        have hl : offs.toList[(x.toInt - lo).toNat]? = some offs[(x.toInt - lo).toNat] := by rw [Array.getElem?_toList]; exact ho
        have hm : offs[(x.toInt - lo).toNat] ∈ offs.toList := by simp
        have h0 := of_decide_eq_true (List.all_eq_true.mp hc.2.2.2 _ hm)
        have hin := atgt_in (pc := pc) (x := ax) (A := A) (S := S2) (m := m) (k := lo) hl (by omega) (by omega)
        refine ⟨(((pc : Int) + offs[(x.toInt - lo).toNat]).toNat, L, r), ?_, (((pc : Int) + offs[(x.toInt - lo).toNat]).toNat, A, S2, m), ?_, rfl, hg1⟩
        · simp only [xst]
          rw [if_neg hx, ho]
          exact if_pos h0
        · split
          · exact hin
          · exact List.mem_cons_of_mem _ hin
    · cases ha
  · cases ha
theorem azlsw_ok {df : Int} {ps : Array (Int × Int)} (hg : gss W E A S m L st h) (ha : azlsw pc df ps A S m = some l) : ∃ o, xst (.lookupswitch df ps) a b pc L st h = some o ∧ aout W E h l o := by
  unfold azlsw at ha
  split at ha
  · rename_i ax S2
    split at ha
    · rename_i hc
      obtain ⟨v, r, rfl, hv, hg1⟩ := hg.pop
      obtain ⟨x, rfl, ix⟩ := ga_int hc.1 hv.1
      cases ha
      rcases altgt_in (pc := pc) (x := ax) (A := A) (S := S2) (m := m) (d := df) (z := x.toInt) ix.1 ix.2 ps.toList with e | ⟨o, ho, e, hm⟩
      · refine ⟨(((pc : Int) + df).toNat, L, r), ?_, (((pc : Int) + df).toNat, A, S2, m), List.mem_cons_self, rfl, hg1⟩
        simp only [xst]
        rw [e]
        exact if_pos hc.2.1
      · have h0 : 0 ≤ (pc : Int) + o.2 := of_decide_eq_true (List.all_eq_true.mp hc.2.2 _ ho)
        refine ⟨(((pc : Int) + o.2).toNat, L, r), ?_, (((pc : Int) + o.2).toNat, A, S2, m), List.mem_cons_of_mem _ hm, rfl, hg1⟩
        simp only [xst]
        rw [e]
        exact if_pos h0
    · cases ha
  · cases ha
theorem azcp_ok {idx : Nat} (hw : AWf W) (hg : gss W E A S m L st h) (ha : azcp W ws q A S m = some l) : ∃ r h1, xhp (.invokestatic idx) 998 b st h = some (3, r, h1) ∧ aout W E h1 l (q, L, r) ∧ AFr W ws h h1 ∧ ∃ a n : Int, ∃ z : Nat, azin ws z a n = true ∧ AFr W [(z, a, n)] h h1 := by
  unfold azcp at ha
  split at ha
  · rename_i an ad aa as ab S2
    split at ha
    · rename_i hc
      obtain ⟨c1, c2, c3, c4, c5, c6, c7, c8, c9, c10, c11, c12, c13, c14, c15, c16, c17, c18, c19, c20, c21, c22⟩ := hc
      cases ha
      obtain ⟨v1, r1, rfl, hv1, hg1⟩ := hg.pop
      obtain ⟨v2, r2, rfl, hv2, hg2⟩ := hg1.pop
      obtain ⟨v3, r3, rfl, hv3, hg3⟩ := hg2.pop
      obtain ⟨v4, r4, rfl, hv4, hg4⟩ := hg3.pop
      obtain ⟨v5, r, rfl, hv5, hg5⟩ := hg4.pop
      obtain ⟨n, rfl, n1, n2⟩ := ga_int c1 hv1.1
      obtain ⟨d, rfl, d1, d2⟩ := ga_int c2 hv2.1
      obtain ⟨k, rfl, hk, hkn⟩ := ga_2 c3 hv3.1
      obtain ⟨s, rfl, s1, s2⟩ := ga_int c4 hv4.1
      obtain ⟨j, rfl, hj, hjn⟩ := ga_2 c5 hv5.1
      obtain ⟨m1, m2, m3⟩ := hg.2.2.2
      obtain ⟨p1, p2⟩ := m3 k hkn
      obtain ⟨q1, q2⟩ := m3 j hjn
      rw [hk] at p1 p2
      rw [hj] at q1 q2
      obtain ⟨⟨kt, kl, kf⟩, ek, ek1, ek2⟩ := shp_i c14 p1
      obtain ⟨⟨jt, jl, jf⟩, ej, ej1, ej2⟩ := shp_i c15 q1
      dsimp only at ek1 ek2 ej1 ej2
      have z0 : d.toNatClampNeg = 0 := by have := i32_cl (x := d) (by omega); omega
      have z1 : s.toNatClampNeg = 0 := by have := i32_cl (x := s) (by omega); omega
      have z2 := i32_cl (x := n) (by omega)
      have kh : k < h.1 := by omega
      have jh : j < h.1 := by omega
      have k13 : 13 ≤ k := own13 hw (by omega)
      have j13 : 13 ≤ j := own13 hw (by omega)
      have hcat := gst_cat hg5.2.1
      have e1 : (xup h k (.inr (.inl (kt, kl, va_cpy jf kf 0 0 n.toNatClampNeg)))).2.2 k = .inr (.inl (kt, kl, va_cpy jf kf 0 0 n.toNatClampNeg)) := if_pos rfl
      have e2 : ∀ i, ¬ i = k → (xup h k (.inr (.inl (kt, kl, va_cpy jf kf 0 0 n.toNatClampNeg)))).2.2 i = h.2.2 i := fun i hi => if_neg hi
      have hF : AFr W [(aa.2.2.2.1, 0, an.2.1 - 1)] h (xup h k (.inr (.inl (kt, kl, va_cpy jf kf 0 0 n.toNatClampNeg)))) := fun i b hi hb => by
        unfold rd
        by_cases hik : i = k
        · subst hik
          rw [e1, ek]
          have hb2 : ¬ b < n.toNatClampNeg := fun hbn => hb _ (List.mem_singleton.mpr rfl) ⟨hk.symm, by show (0 : Int) ≤ _; omega, by show _ ≤ an.2.1 - 1; omega⟩
          have e3 : va_cpy jf kf 0 0 n.toNatClampNeg b = kf b := if_neg (by omega)
          dsimp only
          rw [e3]
        · rw [e2 i hik]
      have hI : AInv W (xup h k (.inr (.inl (kt, kl, va_cpy jf kf 0 0 n.toNatClampNeg)))) := by
        refine ⟨m1, m2, fun i hi => ?_⟩
        by_cases hik : i = k
        · subst hik
          rw [e1, hk]
          refine ⟨?_, fun b a hab => ?_⟩
          · unfold shp
            rw [c14]
            exact ⟨ek1, ek2⟩
          · by_cases hbn : b < n.toNatClampNeg
            · have hab2 : shA (W.2.1 ab.2.2.2.1) b = some a := by
                have hlb : b < (W.2.1 ab.2.2.2.1).2.2.1 := by omega
                have hla : b < (W.2.1 aa.2.2.2.1).2.2.1 := by omega
                unfold shA at hab ⊢
                rw [c14] at hab
                rw [c15]
                rw [if_pos hla, c20] at hab
                rw [if_pos hlb]
                exact hab
              obtain ⟨v, hv, hga⟩ := q2 b a hab2
              refine ⟨v, ?_, hga⟩
              have hjl : b < jl := by omega
              have hkl : b < kl := by omega
              have hv0 : some (Value.int (jf b)) = some v := by
                have e := hv
                unfold rd at e
                rw [ej] at e
                dsimp only at e
                rw [if_pos hjl] at e
                exact e
              unfold rd
              rw [e1]
              dsimp only
              rw [if_pos hkl, show va_cpy jf kf 0 0 n.toNatClampNeg b = jf b by
                unfold va_cpy
                rw [if_pos (by omega)]
                congr 1
                omega]
              exact hv0
            · obtain ⟨v, hv, hga⟩ := p2 b a hab
              refine ⟨v, ?_, hga⟩
              rw [hF i b hi (fun w hw hcc => ?_)]
              · exact hv
              · rw [List.mem_singleton.mp hw] at hcc
                have h3 : ((b : Nat) : Int) ≤ an.2.1 - 1 := hcc.2.2
                omega
        · rw [e2 i hik]
          refine ⟨(m3 i hi).1, fun b a hab => ?_⟩
          obtain ⟨v, hv, hga⟩ := (m3 i hi).2 b a hab
          refine ⟨v, ?_, hga⟩
          unfold rd at hv ⊢
          rw [e2 i hik]
          exact hv
      refine ⟨r, _, ?_, ⟨_, List.mem_singleton.mpr rfl, rfl, hg5.1.fr hF, gst.fr hF hg5.2.1, hg5.2.2.1.fr hF, hI⟩, hF.mono fun w hw => ?_, 0, an.2.1 - 1, aa.2.2.2.1, c21, hF⟩
      · have hs0 : ¬ s < 0 := i32_nn (by omega)
        have hd0 : ¬ d < 0 := i32_nn (by omega)
        have hn0 : ¬ n < 0 := i32_nn (by omega)
        simp only [xhp, ek, ej]
        rw [if_pos trivial, if_pos ⟨kh, k13, jh, j13, by rw [ek1, c16], by rw [ej1, c17], hs0, hd0, hn0, by omega, by omega, by omega⟩, z0, z1]
      · rw [List.mem_singleton.mp hw]
        exact azin_ok c21
    · cases ha
  · cases ha
end AN
