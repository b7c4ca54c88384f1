/-! switches: every target, the number told nothing -/
def aztsw (pc : Nat) (df : Int) (offs : Array Int) (A : List (Option AV)) (S : List AV) (m : AM) : Option (List AS) := match S with
  | x :: r => if x.1 = 0 ∧ 0 ≤ (pc : Int) + df ∧ (offs.toList.all fun o => decide (0 ≤ (pc : Int) + o)) = true then some ((((pc : Int) + df).toNat, A, r, m) :: offs.toList.map fun o => (((pc : Int) + o).toNat, A, r, m)) else none
  | _ => none
section AN
variable {W : AW} {E : Nat → Int} {L : XL} {h : XH} {A : List (Option AV)} {S : List AV} {m : AM} {st : List Value} {l : List AS} {a b pc : Nat}
theorem aztsw_ok {df lo hi : Int} {offs : Array Int} (hsz : ((offs.size : Nat) : Int) = hi - lo + 1) (hg : gss W E A S m L st h) (ha : aztsw pc df offs A S m = some l) : ∃ o, xst (.tableswitch df lo hi offs) a b pc L st h = some o ∧ aout W E h l o := by
  unfold aztsw at ha
  split at ha
  · split at ha
    · rename_i hc
      cases ha
      obtain ⟨v, r, rfl, hv, hg1⟩ := hg.pop
      obtain ⟨x, rfl, -⟩ := ga_int hc.1 hv.1
      by_cases hx : x.toInt < lo ∨ hi < x.toInt
      · refine ⟨(((pc : Int) + df).toNat, L, r), ?_, _, List.mem_cons_self, rfl, hg1⟩
        simp only [xst]
        rw [if_pos hx, if_pos hc.2.1]
      · have hi2 : (x.toInt - lo).toNat < offs.size := by omega
        have ho : offs[(x.toInt - lo).toNat]? = some offs[(x.toInt - lo).toNat] := Array.getElem?_eq_getElem hi2
        have hm : offs[(x.toInt - lo).toNat] ∈ offs.toList := by simp
        have h0 := of_decide_eq_true (List.all_eq_true.mp hc.2.2 _ hm)
        refine ⟨(((pc : Int) + offs[(x.toInt - lo).toNat]).toNat, L, r), ?_, _, List.mem_cons_of_mem _ (List.mem_map.mpr ⟨_, hm, rfl⟩), rfl, hg1⟩
        simp only [xst]
        rw [if_neg hx, ho]
        exact if_pos h0
    · cases ha
  · cases ha
end AN
