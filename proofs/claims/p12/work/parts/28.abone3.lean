/-! null or not; a local counted up -/
def anull (n f : Nat) (A : List (Option AV)) (S : List AV) (m : AM) : Option (List AS) := match S with
  | x :: r => if x.1 = 2 then some [(f, A, r, m)] else if x.1 = 4 then some [(n, A, r, m)] else if x.1 = 3 then
      some [(n, A, r, m), (f, (if 0 < x.2.2.2.2.2 ∧ x.2.2.2.2.2 < 1000 then A.set (x.2.2.2.2.2 - 1) (some (avR x.2.2.2.1)) else A), r, m)] else none
  | _ => none
def ainc (q i : Nat) (c : Int) (A : List (Option AV)) (S : List AV) (m : AM) : Option (List AS) := match A[i]? with
  | some (some x) => if x.1 = 0 ∧ afree A i = true then some [(q, (A.map (Option.map (aunS (i + 1)))).set i (some (aun (aadd x (avI c c)))), S.map (aunS (i + 1)), m)] else none
  | _ => none
section AN
variable {W : AW} {E : Nat → Int} {L : XL} {h : XH} {A : List (Option AV)} {S : List AV} {m : AM} {st : List Value} {l : List AS} {a b pc n f : Nat}
theorem anull_ok (hg : gss W E A S m L st h) (ha : anull n f A S m = some l) : ∃ r, (st = .null :: r ∧ aout W E h l (n, L, r)) ∨ ∃ k, st = .ref k :: r ∧ aout W E h l (f, L, r) := by
  unfold anull at ha
  split at ha
  · rename_i x S2
    obtain ⟨v, r, rfl, hv, hg1⟩ := hg.pop
    refine ⟨r, ?_⟩
    split at ha
    · rename_i hc
      cases ha
      obtain ⟨k, rfl, -⟩ := ga_2 hc hv.1
      exact Or.inr ⟨k, rfl, aout.one hg1⟩
    · split at ha
      · rename_i hc
        cases ha
        have e := hv.1
        unfold ga at e
        rw [hc] at e
        subst e
        exact Or.inl ⟨rfl, aout.one hg1⟩
      · split at ha
        · rename_i hc
          cases ha
          have e := hv.1
          unfold ga at e
          rw [hc] at e
          rcases e with rfl | ⟨k, rfl, e1, e2⟩
          · exact Or.inl ⟨rfl, _, List.mem_cons_self, rfl, hg1⟩
          · refine Or.inr ⟨k, rfl, _, List.mem_cons_of_mem _ (List.mem_singleton.mpr rfl), rfl, ?_, hg1.2⟩
            dsimp only
            split
            · rename_i hs
              refine gls_set hg1.1 fun d hd => ?_
              rw [hv.2.2.1 hs.1 hs.2] at hd
              cases hd
              exact ⟨_, rfl, gv_plain ⟨k, rfl, e1, e2⟩ (fun h => by cases h) rfl⟩
            · exact hg1.1
        · cases ha
  · cases ha
theorem ifnull_ok {off : Int} (hg : gss W E A S m L st h) (ha : anull a (pc + 3) A S m = some l) : ∃ o, xst (.ifnull off) a b pc L st h = some o ∧ aout W E h l o := by
  obtain ⟨r, ⟨rfl, ho⟩ | ⟨k, rfl, ho⟩⟩ := anull_ok hg ha
  · exact ⟨_, rfl, ho⟩
  · exact ⟨_, rfl, ho⟩
theorem ifnonnull_ok {off : Int} (hg : gss W E A S m L st h) (ha : anull (pc + 3) a A S m = some l) : ∃ o, xst (.ifnonnull off) a b pc L st h = some o ∧ aout W E h l o := by
  obtain ⟨r, ⟨rfl, ho⟩ | ⟨k, rfl, ho⟩⟩ := anull_ok hg ha
  · exact ⟨_, rfl, ho⟩
  · exact ⟨_, rfl, ho⟩
theorem iinc_ok {i : Nat} {d : Int} (hg : gss W E A S m L st h) (ha : ainc (pc + 3) i (Int32.ofInt d).toInt A S m = some l) : ∃ o, xst (.iinc i d) a b pc L st h = some o ∧ aout W E h l o := by
  unfold ainc at ha
  split at ha
  · rename_i x hx
    split at ha
    · rename_i hc
      cases ha
      obtain ⟨e, he, v, rfl, hv⟩ := hg.1.2 _ _ hx
      obtain ⟨z, rfl, -⟩ := ga_int hc.1 hv.1
      have k := gv_add (b := avI (Int32.ofInt d).toInt (Int32.ofInt d).toInt) (y := Int32.ofInt d) hc.1 rfl hv (gv_I (Int.le_refl _) (Int.le_refl _))
      refine ⟨(pc + 3, L.set i (some (.int (z + Int32.ofInt d))), st), ?_, aout.one (hg.setL ⟨_, rfl, gv_un k⟩)⟩
      simp only [xst, he]
      rw [if_pos (afree_ok hg.1 hc.2)]
    · cases ha
  · cases ha
end AN
