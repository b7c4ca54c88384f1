/-! one step of all instructions is right -/
section AN
variable {W : AW} {P : Nat × List APr} {E : Nat → Int} {M : XMeth} {ws : AWr} {d : Nat} {cs : List (Nat × ACt)} {r : XRow} {su : List Nat} {pc : Nat} {A : List (Option AV)} {S : List AV} {m : AM} {L : XL} {st : List Value} {h : XH} {l : List AX}
theorem ast0_no {a b : Nat} {s : List AV} (e : ast0 W r pc A s m = none) : ¬ ∃ l, ast0 W r pc A s m = some l := fun ⟨l, h⟩ => by rw [e] at h; cases h
theorem asu_some {o : Option (List AS)} (h : asu su o = some l) : ∃ k, o = some k ∧ l = k.map fun s => (su, s) := by
  unfold asu at h
  split at h
  · cases h
    exact ⟨_, rfl, rfl⟩
  · cases h
theorem asta_ok {t : Nat} (hk : AWk W) (ht : t = 0 ∨ t = 1) (hp : PInv W P h su) (hg : gss W E A S m L st h) (ha : asta W P ws t pc su A S m = some l) : ∃ rr h1, xhp (if t = 0 then .iastore else .bastore) 0 0 st h = some (1, rr, h1) ∧ (∃ u ∈ l, AXh W P E u (pc + 1, L, rr, h1)) ∧ AFr W ws h h1 := by
  unfold asta at ha
  split at ha
  · rename_i av ai aa S2
    split at ha
    · rename_i hw
      split at ha
      · rename_i l2 he
        cases ha
        obtain ⟨rr, h1, k1, ⟨q, hq, q1, q2⟩, k3⟩ := azas_ok hk.1 hg ht he
        refine ⟨rr, h1, k1, ⟨_, List.mem_map.mpr ⟨q, hq, rfl⟩, q1.symm, q2, ?_⟩, k3.mono fun w hm => ?_⟩
        · dsimp only
          split
          · rename_i hR
            rw [hR] at k3
            exact hp.wr k3 q2.2.2.1
          · rename_i hR
            exact hp.fr k3 hR hw.2
        · rw [List.mem_singleton.mp hm]
          exact azin_ok hw.1
      · cases ha
    · cases ha
  · cases ha
theorem astf_ok {ci b idx : Nat} (hk : AWk W) (hp : PInv W P h su) (hg : gss W E A S m L st h) (ha : astf W P ws ci b pc su A S m = some l) : ∃ rr h1, xhp (.putfield idx) ci b st h = some (3, rr, h1) ∧ (∃ u ∈ l, AXh W P E u (pc + 3, L, rr, h1)) ∧ AFr W ws h h1 := by
  unfold astf at ha
  split at ha
  · rename_i av aa S2
    split at ha
    · rename_i hc
      obtain ⟨l2, he, rfl⟩ := asu_some ha
      obtain ⟨rr, h1, k1, ⟨q, hq, q1, q2⟩, k3⟩ := azpf_ok hk.1 hg he
      refine ⟨rr, h1, k1, ⟨_, List.mem_map.mpr ⟨q, hq, rfl⟩, q1.symm, q2, hp.fr k3 hc.2.1 hc.2.2⟩, k3.mono fun w hm => ?_⟩
      rw [List.mem_singleton.mp hm]
      exact azin_ok hc.1
    · cases ha
  · cases ha
theorem astc_ok {b idx : Nat} (hk : AWk W) (hp : PInv W P h su) (hg : gss W E A S m L st h) (ha : astc W P ws pc su A S m = some l) : ∃ rr h1, xhp (.invokestatic idx) 998 b st h = some (3, rr, h1) ∧ (∃ u ∈ l, AXh W P E u (pc + 3, L, rr, h1)) ∧ AFr W ws h h1 := by
  unfold astc at ha
  split at ha
  · rename_i an ad aa S2
    split at ha
    · rename_i hc
      obtain ⟨l2, he, rfl⟩ := asu_some ha
      obtain ⟨rr, h1, k1, ⟨q, hq, q1, q2⟩, k3, -⟩ := azcp_ok (b := b) (idx := idx) hk.1 hg he
      refine ⟨rr, h1, k1, ⟨_, List.mem_map.mpr ⟨q, hq, rfl⟩, q1.symm, q2, hp.fr k3 hc.2.1 hc.2.2⟩, k3.mono fun w hm => ?_⟩
      rw [List.mem_singleton.mp hm]
      exact azin_ok hc.1
    · cases ha
  · cases ha
theorem astk_ok (hk : AWk W) (hcs : ∀ c ∈ cs, AHp W P c.2) (hr : r ∈ xmT M) (hpc : r.1 = pc) (hp : PInv W P h su) (hg : gss W E A S m L st h) (ha : (if su = [] then asu [] (acal W ws d r pc A S m cs) else none) = some l) : ∃ c1, XStep xM (XCall xM d) M (pc, L, st, h) c1 ∧ (∃ u ∈ l, AXh W P E u c1) ∧ AFr W ws h c1.2.2.2 := by
  split at ha
  · rename_i hsu
    subst hsu
    obtain ⟨l2, he, rfl⟩ := asu_some ha
    obtain ⟨M1, as, rest, v, h1, k1, k2, k3, k4, k5, k6, k7, ⟨q, hq, q1, q2⟩, k9, k10⟩ := acal_ok hk hp hg hcs he
    exact ⟨(pc + 3, L, v.toList ++ rest, h1), ⟨r, hr, hpc, Or.inr (Or.inr ⟨M1, as, rest, v, h1, k1, k2, k3, k4, k5, k6, k7, rfl⟩)⟩, ⟨_, List.mem_map.mpr ⟨q, hq, rfl⟩, q1.symm, q2, k10⟩, k9⟩
  · cases ha
theorem ast0k_ok (hk : AWk W) (hr : r ∈ xmT M) (hpc : r.1 = pc) (hp : PInv W P h su) (hg : gss W E A S m L st h) (ha : asu su (ast0 W r pc A S m) = some l) : ∃ c1, XStep xM (XCall xM d) M (pc, L, st, h) c1 ∧ (∃ u ∈ l, AXh W P E u c1) ∧ AFr W ws h c1.2.2.2 := by
  obtain ⟨l2, he, rfl⟩ := asu_some ha
  obtain ⟨o, k1, q, hq, q1, q2⟩ := ast0_ok hk hg he
  exact ⟨(o.1, o.2.1, o.2.2, h), ⟨r, hr, hpc, Or.inl ⟨o, k1, rfl⟩⟩, ⟨_, List.mem_map.mpr ⟨q, hq, rfl⟩, q1.symm, q2, hp⟩, AFr.refl W ws h⟩
end AN
theorem astep_ok {W : AW} {P : Nat × List APr} {E : Nat → Int} {M : XMeth} {ws : AWr} {d : Nat} {cs : List (Nat × ACt)} {r : XRow} {q : AX} {c : XC} {l : List AX} (hk : AWk W) (hcs : ∀ c ∈ cs, AHp W P c.2) (hr : r ∈ xmT M) (hpc : r.1 = q.2.1) (hg : AXh W P E q c) (ha : astep W P ws d cs r q = some l) : ∃ c1, XStep xM (XCall xM d) M c c1 ∧ (∃ u ∈ l, AXh W P E u c1) ∧ AFr W ws c.2.2.2 c1.2.2.2 := by
  obtain ⟨su, pc, A, S, m⟩ := q
  obtain ⟨cp, L, st, h⟩ := c
  obtain ⟨g1, g2, g3⟩ := hg
  dsimp only at g1 g2 g3 hpc
  subst g1
  have hin : ∀ {n : Nat} {rr : List Value} {h1 : XH}, xhp r.2.1 r.2.2.2.1 r.2.2.2.2.1 st h = some (n, rr, h1) → XStep xM (XCall xM d) M (cp, L, st, h) (cp + n, L, rr, h1) := fun he => ⟨r, hr, hpc, Or.inr (Or.inl ⟨_, he, rfl⟩)⟩
  unfold astep at ha
  dsimp only at ha
  split at ha
  · rename_i idx hi
    obtain ⟨rr, h1, k1, k2, k3⟩ := astf_ok (idx := idx) hk g3 g2 ha
    exact ⟨_, hin (by rw [hi]; exact k1), k2, k3⟩
  · rename_i hi
    obtain ⟨rr, h1, k1, k2, k3⟩ := asta_ok hk (Or.inl rfl) g3 g2 ha
    exact ⟨_, hin (by rw [hi]; exact k1), k2, k3⟩
  · rename_i hi
    obtain ⟨rr, h1, k1, k2, k3⟩ := asta_ok hk (Or.inr rfl) g3 g2 ha
    exact ⟨_, hin (by rw [hi]; exact k1), k2, k3⟩
  · rename_i idx hi
    split at ha
    · rename_i h8
      obtain ⟨rr, h1, k1, k2, k3⟩ := astc_ok (b := r.2.2.2.2.1) (idx := idx) hk g3 g2 ha
      exact ⟨_, hin (by rw [hi, h8]; exact k1), k2, k3⟩
    · split at ha
      · rename_i h6
        obtain ⟨l2, he, rfl⟩ := asu_some ha
        obtain ⟨rr, k1, z, hz, z1, z2⟩ := azmin_ok (b := r.2.2.2.2.1) (idx := idx) g2 he
        exact ⟨_, hin (by rw [hi, h6]; exact k1), ⟨_, List.mem_map.mpr ⟨z, hz, rfl⟩, z1.symm, z2, g3⟩, AFr.refl W ws h⟩
      · exact astk_ok hk hcs hr hpc g3 g2 ha
  · exact astk_ok hk hcs hr hpc g3 g2 ha
  · exact astk_ok hk hcs hr hpc g3 g2 ha
  · exact ast0k_ok hk hr hpc g3 g2 ha
