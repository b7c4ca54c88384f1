/-! a step that leaves the heap is right; a world as it must be -/
/-- the world's own conditions -/
def AWk (W : AW) : Prop := AWf W ∧ 13 ≤ W.2.2.2.1 ∧ ∀ r, (W.2.1 r).1 = 1 → (W.2.1 r).2.1 = 4 → r < 13
section AN
variable {W : AW} {E : Nat → Int} {L : XL} {h : XH} {A : List (Option AV)} {S : List AV} {m : AM} {st : List Value} {l : List AS} {pc : Nat} {r : XRow}
theorem ast0_ok (hk : AWk W) (hg : gss W E A S m L st h) (ha : ast0 W r pc A S m = some l) : ∃ o, xst r.2.1 r.2.2.2.1 r.2.2.2.2.1 pc L st h = some o ∧ aout W E h l o := by
  obtain ⟨hw, hN, h4⟩ := hk
  obtain ⟨rpc, ins, len, a, b, wd⟩ := r
  dsimp only
  unfold ast0 at ha
  dsimp only at ha
  split at ha
  · exact ifnull_ok hg ha
  · exact ifnonnull_ok hg ha
  · exact iinc_ok hg ha
  · exact azlst_ok hg ha
  · exact azlst_ok hg ha
  · split at ha
    · rename_i h98
      subst h98
      exact azsf_ok hw hN hg ha
    · rename_i h98
      exact az1_ok hw hg (by simp only [az1, if_neg h98]; exact ha)
  · split at ha
    · rename_i l2 he
      cases ha
      exact azbal_ok hw hg (Or.inl rfl) h4 he
    · exact azbal_ok hw hg (Or.inr rfl) h4 ha
  · exact azldc_ok hw hN hg ha
  · exact azgst_ok hw hN hg ha
  · exact aztsw2_ok hg ha
  · exact azlsw_ok hg ha
  · exact az2_ok hg ha
  · exact az2_ok hg ha
  · exact az2_ok hg ha
  · exact az2_ok hg ha
  · exact az2_ok hg ha
  · exact az2_ok hg ha
  · exact az2_ok hg ha
  · exact az2_ok hg ha
  · exact az2_ok hg ha
  · exact az2_ok hg ha
  · exact az1_ok hw hg ha
end AN
/-! splits -/
theorem aspl_ok {x : Int} : ∀ {vs : List Int} {lo hi : Int}, lo ≤ x → x ≤ hi → ∃ u ∈ aspl vs lo hi, u.1 ≤ x ∧ x ≤ u.2
  | [], lo, hi, h1, h2 => ⟨_, List.mem_singleton.mpr rfl, h1, h2⟩
  | v :: t, lo, hi, h1, h2 => by
    unfold aspl
    split
    · rename_i hv
      rcases Int.lt_trichotomy x v with hx | hx | hx
      · rw [if_pos (by omega)]
        exact ⟨(lo, v - 1), List.mem_append_left _ (List.mem_singleton.mpr rfl), h1, by show x ≤ v - 1; omega⟩
      · exact ⟨(v, v), List.mem_append_right _ List.mem_cons_self, by show v ≤ x; omega, by show x ≤ v; omega⟩
      · rw [if_pos (show v < hi by omega)]
        obtain ⟨u, hu, e⟩ := aspl_ok (vs := t) (lo := v + 1) (hi := hi) (by omega) h2
        exact ⟨u, List.mem_append_right _ (List.mem_cons_of_mem _ hu), e⟩
    · exact aspl_ok h1 h2
/-- a state holds -/
def AXh (W : AW) (P : Nat × List APr) (E : Nat → Int) (q : AX) (c : XC) : Prop := c.1 = q.2.1 ∧ gss W E q.2.2.1 q.2.2.2.1 q.2.2.2.2 c.2.1 c.2.2.1 c.2.2.2 ∧ PInv W P c.2.2.2 q.1
section ASP
variable {W : AW} {P : Nat × List APr} {E : Nat → Int} {L : XL} {h : XH} {m : AM}
/-- a slot's bounds, if there is its place -/
theorem asl_ok {r b k : Nat} {lo hi : Int} (hm : gmem W h m) (hI : AInv W h) (hk : k < W.2.2.2.1) (hr : W.1 k = r) (ha : asl W m r b = some (lo, hi)) : ∃ x : Int32, rd h k b = some (.int x) ∧ lo ≤ x.toInt ∧ x.toInt ≤ hi := by
  unfold asl at ha
  split at ha
  · rename_i q hq
    cases ha
    exact hm _ (amem_in hq) k hk hr
  · split at ha
    · rename_i s hs
      split at ha
      · rename_i h0
        cases ha
        obtain ⟨v, hv, hg⟩ := (hI.2.2 k hk).2 b s (by rw [hr]; exact hs)
        obtain ⟨x, rfl, e⟩ := ga_int h0 hg
        exact ⟨x, hv, e⟩
      · cases ha
    · cases ha
theorem gmem.add1 {r b k : Nat} {lo hi : Int} {x : Int32} (hw : AWf W) (hm : gmem W h m) (h1 : W.2.2.1 r = true) (hk : k < W.2.2.2.1) (hr : W.1 k = r) (hv : rd h k b = some (.int x)) (e1 : lo ≤ x.toInt) (e2 : x.toInt ≤ hi) : gmem W h ((r, b, lo, hi) :: m) := gmem.cons hw h1 hm hk hr hv e1 e2
/-- none there: anything is remembered of it -/
theorem gmem.none1 {r b : Nat} {lo hi : Int} (hm : gmem W h m) (hn : ¬ ∃ k, k < W.2.2.2.1 ∧ W.1 k = r) : gmem W h ((r, b, lo, hi) :: m) := fun q hq z hz hzr => by
  rcases List.mem_cons.mp hq with rfl | hq
  · exact absurd ⟨z, hz, hzr⟩ hn
  · exact hm q hq z hz hzr
theorem aspl_ne (vs : List Int) (lo hi : Int) : ∃ u, u ∈ aspl vs lo hi := by
  induction vs generalizing lo with
  | nil => exact ⟨_, List.mem_singleton.mpr rfl⟩
  | cons v t ih =>
    unfold aspl
    split
    · exact ⟨(v, v), List.mem_append_right _ List.mem_cons_self⟩
    · exact ih _
theorem apfd_mem {k n : Nat} {S : List AV} {p : APr} (h : apfd P k n S = some p) : ∃ i : Nat, P.2[i]? = some p := by
  unfold apfd at h
  split at h
  · exact ⟨n, h⟩
  · split at h
    · split at h
      · exact List.mem_iff_getElem?.mp (List.mem_of_find?_eq_some h)
      · cases h
    · cases h
theorem asplit_ok {hi : AHi} {q : AX} {c : XC} (hw : AWf W) (hg : AXh W P E q c) : ∃ u ∈ asplit W P hi q, AXh W P E u c := by
  obtain ⟨g1, g2, g3⟩ := hg
  obtain ⟨su, pc, A, S, m⟩ := q
  obtain ⟨cp, L, st, h⟩ := c
  dsimp only at g1 g2 g3
  obtain ⟨hA, hS, hm, hI⟩ := g2
  have same : ∃ u ∈ [(su, pc, A, S, m)], AXh W P E u (cp, L, st, h) := ⟨_, List.mem_singleton.mpr rfl, g1, ⟨hA, hS, hm, hI⟩, g3⟩
  unfold asplit
  dsimp only
  split
  · split
    · rename_i a ha
      split
      · rename_i h0
        obtain ⟨d, hd, v, rfl, hv⟩ := hA.2 _ _ ha
        obtain ⟨x, rfl, e1, e2⟩ := ga_int h0 hv.1
        obtain ⟨u, hu, f1, f2⟩ := aspl_ok (vs := hi.2.2.2.2) e1 e2
        refine ⟨_, List.mem_map.mpr ⟨u, hu, rfl⟩, g1, ⟨gls_set hA fun d hd2 => ?_, hS, hm, hI⟩, g3⟩
        rw [hd] at hd2
        cases hd2
        refine ⟨_, rfl, ga_of rfl ⟨f1, f2⟩, fun _ hs => hv.2.1 h0 hs, hv.2.2⟩
      · exact same
    · exact same
  · split
    · rename_i h1
      split
      · rename_i lo hh hb
        by_cases hex : ∃ k, k < W.2.2.2.1 ∧ W.1 k = hi.2.2.1
        · obtain ⟨k, hk, hr⟩ := hex
          obtain ⟨x, hv, e1, e2⟩ := asl_ok hm hI hk hr hb
          obtain ⟨u, hu, f1, f2⟩ := aspl_ok (vs := hi.2.2.2.2) e1 e2
          exact ⟨_, List.mem_map.mpr ⟨u, hu, rfl⟩, g1, ⟨hA, hS, hm.add1 hw h1 hk hr hv f1 f2, hI⟩, g3⟩
        · obtain ⟨u, hu⟩ := aspl_ne hi.2.2.2.2 lo hh
          exact ⟨_, List.mem_map.mpr ⟨u, hu, rfl⟩, g1, ⟨hA, hS, hm.none1 hex, hI⟩, g3⟩
      · exact same
    · exact same
  · split
    · rename_i h1
      obtain ⟨h1, hsu⟩ := h1
      split
      · rename_i p hp
        split
        · rename_i lo hh hb
          by_cases hex : ∃ k, k < W.2.2.2.1 ∧ W.1 k = P.1
          · obtain ⟨k, hk, hr⟩ := hex
            obtain ⟨x, hv, e1, e2⟩ := asl_ok hm hI hk hr hb
            obtain ⟨u, hu, f1, f2⟩ := aspl_ok (vs := [p.2.1]) e1 e2
            refine ⟨_, List.mem_map.mpr ⟨u, hu, rfl⟩, g1, ⟨hA, hS, ?_, hI⟩, g3⟩
            dsimp only
            split
            · rename_i hc
              obtain ⟨ip, hp⟩ := apfd_mem hp
              obtain ⟨y, hy, y1, y2⟩ := g3.1 _ p hp (by rw [hsu]; exact List.not_mem_nil) k hk hr x hv (by omega)
              exact (hm.add1 hw h1 hk hr hy y1 y2).add1 hw h1 hk hr hv f1 f2
            · exact hm.add1 hw h1 hk hr hv f1 f2
          · obtain ⟨u, hu⟩ := aspl_ne [p.2.1] lo hh
            refine ⟨_, List.mem_map.mpr ⟨u, hu, rfl⟩, g1, ⟨hA, hS, ?_, hI⟩, g3⟩
            dsimp only
            split
            · exact (hm.none1 hex).none1 hex
            · exact hm.none1 hex
        · exact same
      · exact same
    · exact same
theorem ahin_ok {c : XC} (hw : AWf W) (pc : Nat) : ∀ (hs : List AHi) (l : List AX), (∃ q ∈ l, AXh W P E q c) → ∃ u ∈ ahin W P pc hs l, AXh W P E u c
  | [], l, h => h
  | x :: t, l, h => by
    unfold ahin
    split
    · obtain ⟨q, hq, hg⟩ := h
      obtain ⟨u, hu, hg2⟩ := asplit_ok (hi := x) hw hg
      exact ahin_ok hw pc t _ ⟨u, List.mem_flatMap.mpr ⟨q, hq, hu⟩, hg2⟩
    · exact ahin_ok hw pc t l h
end ASP
