/-! what a branch shows is so -/
theorem atell_len (a : AV) (lo hi : Int) (q : List (Option AV) × AM) : (atell a lo hi q).1.length = q.1.length := by
  unfold atell
  split
  · rfl
  · split
    · split
      · split
        · simp
        · rfl
      · rfl
    · rfl
section AT
variable {W : AW} {E : Nat → Int} {L : XL} {h : XH}
def gls (W : AW) (E : Nat → Int) (L : XL) (h : XH) (A : List (Option AV)) : Prop := A.length = L.length ∧ ∀ (i : Nat) (o : Option AV), A[i]? = some o → ∃ d, L[i]? = some d ∧ gl W E L h o d
theorem gls_set {A : List (Option AV)} (hA : gls W E L h A) {i : Nat} {o : Option AV} (ho : ∀ d, L[i]? = some d → gl W E L h o d) : gls W E L h (A.set i o) := by
  refine ⟨by simpa using hA.1, fun j p hp => ?_⟩
  by_cases hj : i = j
  · subst hj
    have hl : i < A.length := by
      have := (List.getElem?_eq_some_iff.mp hp).1
      simpa using this
    rw [List.getElem?_set_self hl] at hp
    cases hp
    have hl2 : i < L.length := hA.1 ▸ hl
    exact ⟨_, List.getElem?_eq_getElem hl2, ho _ (List.getElem?_eq_getElem hl2)⟩
  · rw [List.getElem?_set_ne hj] at hp
    exact hA.2 j p hp
/-- the value x, marked by a, is known to lie from lo to hi -/
theorem atell_ok {a : AV} {x : Int32} {lo hi : Int} {A : List (Option AV)} {m : AM} (ha : gm W E L h a (.int x)) (h1 : lo ≤ x.toInt) (h2 : x.toInt ≤ hi) (hA : gls W E L h A) (hm : gmem W h m) : gls W E L h (atell a lo hi (A, m)).1 ∧ gmem W h (atell a lo hi (A, m)).2 := by
  obtain ⟨-, m2, m3⟩ := ha
  unfold atell
  split
  · exact ⟨hA, hm⟩
  · rename_i h0
    split
    · rename_i hk
      have e := m2 (by omega) hk
      dsimp only
      split
      · rename_i w hw
        split
        · rename_i ht
          refine ⟨gls_set hA fun d hd => ?_, hm⟩
          rw [e] at hd
          cases hd
          obtain ⟨d2, hd2, v, hv, gv1, gv2⟩ := hA.2 _ _ hw
          rw [e] at hd2
          cases hd2
          cases hv
          obtain ⟨y, hy, b1, b2⟩ := ga_int ht gv1
          cases hy
          refine ⟨_, rfl, ga_of rfl ⟨?_, ?_⟩, fun _ hs => gv2.1 ht hs, fun hs => absurd (show 0 < 0 from hs) (by decide), fun hs => absurd (show 1000 ≤ 0 from hs) (by decide)⟩
          · show max lo w.2.1 ≤ _
            omega
          · show _ ≤ min hi w.2.2.1
            omega
        · exact ⟨hA, hm⟩
      · exact ⟨hA, hm⟩
    · rename_i hk
      refine ⟨hA, fun q hq k hk2 hr => ?_⟩
      rcases List.mem_cons.mp hq with rfl | hq
      · exact ⟨x, m3 (by omega) k hk2 hr, h1, h2⟩
      · exact hm q hq k hk2 hr
/-- one of the states of l stands at pc, with the stack st, and holds -/
def aone (W : AW) (E : Nat → Int) (L : XL) (h : XH) (l : List AS) (pc : Nat) (st : List AV) : Prop := ∃ q ∈ l, q.1 = pc ∧ q.2.2.1 = st ∧ gls W E L h q.2.1 ∧ gmem W h q.2.2.2
theorem aone.left {l1 l2 : List AS} {pc : Nat} {st : List AV} (k : aone W E L h l1 pc st) : aone W E L h (l1 ++ l2) pc st := by
  obtain ⟨q, hq, r⟩ := k
  exact ⟨q, List.mem_append_left _ hq, r⟩
theorem aone.right {l1 l2 : List AS} {pc : Nat} {st : List AV} (k : aone W E L h l2 pc st) : aone W E L h (l1 ++ l2) pc st := by
  obtain ⟨q, hq, r⟩ := k
  exact ⟨q, List.mem_append_right _ hq, r⟩
theorem abr_ok {a b : AV} {x y : Int32} {alo ahi blo bhi : Int} {A : List (Option AV)} {st : List AV} {m : AM} (pc : Nat) (ha : gm W E L h a (.int x)) (hb : gm W E L h b (.int y)) (a1 : alo ≤ x.toInt) (a2 : x.toInt ≤ ahi) (b1 : blo ≤ y.toInt) (b2 : y.toInt ≤ bhi) (hA : gls W E L h A) (hm : gmem W h m) : aone W E L h (abr pc a b alo ahi blo bhi A st m) pc st := by
  unfold abr
  rw [if_neg (by omega)]
  have k1 := atell_ok (lo := alo) (hi := ahi) ha a1 a2 hA hm
  have k2 := atell_ok (lo := blo) (hi := bhi) hb b1 b2 k1.1 k1.2
  exact ⟨_, List.mem_singleton.mpr rfl, rfl, rfl, k2.1, k2.2⟩
section AC
variable {a b : AV} {x y : Int32} {A : List (Option AV)} {st : List AV} {m : AM} (pc : Nat) (ha : gm W E L h a (.int x)) (hb : gm W E L h b (.int y)) (ia : gi a x) (ib : gi b y) (hA : gls W E L h A) (hm : gmem W h m)
theorem aeq_ok (ha : gm W E L h a (.int x)) (hb : gm W E L h b (.int y)) (ia : gi a x) (ib : gi b y) (hA : gls W E L h A) (hm : gmem W h m) (hc : x = y) : aone W E L h (aeq pc a b A st m) pc st := by
  obtain ⟨p1, p2⟩ := ia
  obtain ⟨q1, q2⟩ := ib
  subst hc
  exact abr_ok pc ha hb (by omega) (by omega) (by omega) (by omega) hA hm
theorem ane_ok (ha : gm W E L h a (.int x)) (hb : gm W E L h b (.int y)) (ia : gi a x) (ib : gi b y) (hA : gls W E L h A) (hm : gmem W h m) (hc : ¬ x = y) : aone W E L h (ane pc a b A st m) pc st := by
  obtain ⟨p1, p2⟩ := ia
  obtain ⟨q1, q2⟩ := ib
  have hz : x.toInt ≠ y.toInt := fun e => hc (Int32.toInt_inj.mp e)
  refine abr_ok pc ha hb ?_ ?_ ?_ ?_ hA hm <;> split <;> omega
theorem alt_ok (ha : gm W E L h a (.int x)) (hb : gm W E L h b (.int y)) (ia : gi a x) (ib : gi b y) (hA : gls W E L h A) (hm : gmem W h m) (hc : x < y) : aone W E L h (alt pc a b A st m) pc st := by
  obtain ⟨p1, p2⟩ := ia
  obtain ⟨q1, q2⟩ := ib
  have hz := Int32.lt_iff_toInt_lt.mp hc
  exact abr_ok pc ha hb (by omega) (by omega) (by omega) (by omega) hA hm
theorem age_ok (ha : gm W E L h a (.int x)) (hb : gm W E L h b (.int y)) (ia : gi a x) (ib : gi b y) (hA : gls W E L h A) (hm : gmem W h m) (hc : y ≤ x) : aone W E L h (age pc a b A st m) pc st := by
  obtain ⟨p1, p2⟩ := ia
  obtain ⟨q1, q2⟩ := ib
  have hz := Int32.le_iff_toInt_le.mp hc
  exact abr_ok pc ha hb (by omega) (by omega) (by omega) (by omega) hA hm
end AC
end AT
