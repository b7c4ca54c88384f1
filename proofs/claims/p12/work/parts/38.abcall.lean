/-! writes and pairs; calls by contract -/
section AP
variable {W : AW} {P : Nat × List APr} {h h1 : XH} {su : List Nat} {i j : Int} {m : AM}
theorem CQ.fr {ws : AWr} (hf : AFr W ws h h1) (hs : ∀ w ∈ ws, rok P w.1 w.2.1 w.2.2 = true) (hp : CQ W P h) : CQ W P h1 := fun hP => by
  rw [vw_fr hf fun w hw => rok_at (hs w hw) hP]
  exact hp hP
theorem PInv.fr {R : Nat} (hf : AFr W [(R, i, j)] h h1) (hR : ¬ R = P.1) (hs : rok P R i j = true) (hp : PInv W P h su) : PInv W P h1 su := ⟨fun n p e1 e2 k hk hr x hx hv => by
  have e : ∀ b, rd h1 k b = rd h k b := fun b => hf k b hk fun w hw hc => by
    rw [List.mem_singleton.mp hw] at hc
    exact hR (hc.1.trans hr)
  rw [e] at hx
  obtain ⟨y, hy, y1⟩ := hp.1 n p e1 e2 k hk hr x hx hv
  exact ⟨y, by rw [e]; exact hy, y1⟩, hp.2.fr hf fun w hw => by rw [List.mem_singleton.mp hw]; exact hs⟩
theorem apw_spec {r : Nat} : ∀ {l : List APr} {n0 n : Nat} {p : APr}, l[n]? = some p → ¬ n0 + n ∈ apw r i j m su n0 l → (if abtw i p.1 j || abtw i p.2.2.1 j then apok r m p else !su.contains (n0 + n)) = true
  | [], _, _, _, h, _ => by cases h
  | q :: t, n0, 0, p, h, hn => by
    cases h
    by_cases hc : (if abtw i q.1 j || abtw i q.2.2.1 j then apok r m q else !su.contains n0) = true
    · exact hc
    · unfold apw at hn
      rw [if_neg hc] at hn
      exact absurd List.mem_cons_self hn
  | q :: t, n0, n + 1, p, h, hn => by
    have e : n0 + (n + 1) = n0 + 1 + n := by omega
    rw [e] at hn ⊢
    refine apw_spec (l := t) h fun hm => hn ?_
    unfold apw
    by_cases hc : (if abtw i q.1 j || abtw i q.2.2.1 j then apok r m q else !su.contains n0) = true
    · rw [if_pos hc]
      exact hm
    · rw [if_neg hc]
      exact List.mem_cons_of_mem _ hm
theorem apok_ok {p : APr} (hm : gmem W h m) (ha : apok P.1 m p = true) {k : Nat} (hk : k < W.2.2.2.1) (hr : W.1 k = P.1) {x : Int32} (hx : rd h k p.1 = some (.int x)) (hv : x.toInt = p.2.1) : ∃ y : Int32, rd h k p.2.2.1 = some (.int y) ∧ p.2.2.2.1 ≤ y.toInt ∧ y.toInt ≤ p.2.2.2.2 := by
  unfold apok at ha
  rcases Bool.or_eq_true _ _ ▸ ha with ha | ha
  · split at ha
    · rename_i lo hi hq
      obtain ⟨z, hz, z1, z2⟩ := hm _ (amem_in hq) k hk hr
      dsimp only at hz z1 z2
      rw [hx] at hz
      cases hz
      simp only [Bool.or_eq_true, decide_eq_true_eq] at ha
      omega
    · cases ha
  · split at ha
    · rename_i lo hi hq
      obtain ⟨z, hz, z1, z2⟩ := hm _ (amem_in hq) k hk hr
      simp only [Bool.and_eq_true, decide_eq_true_eq] at ha
      exact ⟨z, hz, Int.le_trans ha.1 z1, Int.le_trans z2 ha.2⟩
    · cases ha
theorem abtw_no {b : Nat} (h : ¬ abtw i b j = true) : ¬ (i ≤ (b : Int) ∧ (b : Int) ≤ j) := fun e => h (by simp [abtw, e.1, e.2])
theorem PInv.wr (hf : AFr W [(P.1, i, j)] h h1) (hm : gmem W h1 m) (hp : PInv W P h su) : PInv W P h1 (apw P.1 i j m su 0 P.2) := ⟨fun n p e1 e2 k hk hr x hx hv => by
  have hs := apw_spec (n0 := 0) e1 (by rw [Nat.zero_add]; exact e2)
  rw [Nat.zero_add] at hs
  split at hs
  · exact apok_ok hm hs hk hr hx hv
  · rename_i hc
    have hc1 : ¬ abtw i p.1 j = true := fun z => hc (by rw [z]; rfl)
    have hc2 : ¬ abtw i p.2.2.1 j = true := fun z => hc (by rw [z, Bool.or_true])
    have e : ∀ b : Nat, ¬ (i ≤ (b : Int) ∧ (b : Int) ≤ j) → rd h1 k b = rd h k b := fun b hb => hf k b hk fun w hw hcc => by
      rw [List.mem_singleton.mp hw] at hcc
      exact hb hcc.2
    rw [e _ (abtw_no hc1)] at hx
    obtain ⟨y, hy, y1⟩ := hp.1 n p e1 (fun hmem => by simp [hmem] at hs) k hk hr x hx hv
    exact ⟨y, by rw [e _ (abtw_no hc2)]; exact hy, y1⟩, hp.2.fr hf fun w hw => by
    rw [List.mem_singleton.mp hw]
    by_cases h66 : P.1 = 66
    · unfold rok rsup
      rw [h66]
      rfl
    · have e : Nat.beq P.1 66 = false := by
        cases hq : Nat.beq P.1 66 with
        | false => rfl
        | true => exact absurd (Nat.eq_of_beq_eq_true hq) h66
      unfold rok
      rw [e]
      rfl⟩
end AP
section AC
variable {W : AW} {P : Nat × List APr} {E : Nat → Int} {L : XL} {h h1 : XH}
theorem gst_append : ∀ {A B : List AV} {a b : List Value}, gst W E L h A a → gst W E L h B b → gst W E L h (A ++ B) (a ++ b)
  | [], _, [], _, _, hb => hb
  | [], _, _ :: _, _, ha, _ => ha.elim
  | _ :: _, _, [], _, ha, _ => ha.elim
  | _ :: _, _, _ :: _, _, ha, hb => ⟨ha.1, gst_append ha.2 hb⟩
theorem gst_rev : ∀ {A : List AV} {a : List Value}, gst W E L h A a → gst W E L h A.reverse a.reverse
  | [], [], _ => trivial
  | [], _ :: _, ha => ha.elim
  | _ :: _, [], ha => ha.elim
  | x :: A, y :: a, ha => by
    rw [List.reverse_cons, List.reverse_cons]
    exact gst_append (gst_rev ha.2) ⟨ha.1, trivial⟩
theorem gst_take : ∀ (n : Nat) {A : List AV} {a : List Value}, gst W E L h A a → gst W E L h (A.take n) (a.take n) ∧ gst W E L h (A.drop n) (a.drop n)
  | 0, _, _, ha => ⟨trivial, ha⟩
  | _ + 1, [], [], _ => ⟨trivial, trivial⟩
  | _ + 1, [], _ :: _, ha => ha.elim
  | _ + 1, _ :: _, [], ha => ha.elim
  | n + 1, _ :: _, _ :: _, ha => ⟨⟨ha.1, (gst_take n ha.2).1⟩, (gst_take n ha.2).2⟩
theorem gst_len : ∀ {A : List AV} {a : List Value}, gst W E L h A a → a.length = A.length
  | [], [], _ => rfl
  | [], _ :: _, ha => ha.elim
  | _ :: _, [], ha => ha.elim
  | _ :: _, _ :: _, ha => by simp [gst_len ha.2]
theorem gst_at : ∀ {A : List AV} {a : List Value} {n : Nat} {x : AV}, gst W E L h A a → A[n]? = some x → ∃ v, a[n]? = some v ∧ gv W E L h x v
  | [], [], _, _, _, hx => by cases hx
  | [], _ :: _, _, _, ha, _ => ha.elim
  | _ :: _, [], _, _, ha, _ => ha.elim
  | _ :: _, y :: _, 0, _, ha, hx => by cases hx; exact ⟨y, rfl, ha.1⟩
  | _ :: _, _ :: _, n + 1, _, ha, hx => gst_at (n := n) ha.2 hx
theorem ale_ok {a b : AV} {v : Value} (hl : ale a b = true) (hv : ga W a v) : ga W b v := by
  obtain ⟨t, lo, hi, sy, of, sr⟩ := a
  obtain ⟨t2, lo2, hi2, sy2, of2, sr2⟩ := b
  unfold ale at hl
  unfold ga at hv ⊢
  dsimp only at hl hv ⊢
  split at hl
  · simp only [Bool.and_eq_true, decide_eq_true_eq] at hl
    obtain ⟨x, rfl, e1, e2⟩ := hv
    exact ⟨x, rfl, by omega, by omega⟩
  · exact hv
  · have e := eq_of_beq hl
    subst e
    exact hv
  · have e := eq_of_beq hl
    subst e
    exact Or.inr hv
  · have e := eq_of_beq hl
    subst e
    exact hv
  · exact Or.inl hv
  · exact hv
  · cases hl
theorem alls_gal : ∀ {A B : List AV} {a : List Value}, gst W E L h A a → alls A B = true → gal W B a
  | [], [], [], _, _ => trivial
  | [], [], _ :: _, ha, _ => ha.elim
  | [], _ :: _, _, _, hl => by cases hl
  | _ :: _, [], _, _, hl => by cases hl
  | _ :: _, _ :: _, [], ha, _ => ha.elim
  | x :: A, y :: B, v :: a, ha, hl => by
    unfold alls at hl
    simp only [Bool.and_eq_true] at hl
    exact ⟨ale_ok hl.1 ha.1.1, alls_gal ha.2 hl.2⟩
theorem acat_ok : ∀ {A : List AV} {a : List Value}, gst W E L h A a → (a.map fun v => v.category).sum ≤ acat A
  | [], [], _ => Nat.le_refl _
  | [], _ :: _, ha => ha.elim
  | _ :: _, [], ha => ha.elim
  | x :: A, v :: a, ha => by
    have k := acat_ok ha.2
    unfold acat
    simp only [List.map_cons, List.sum_cons]
    have c : v.category ≤ (if x.1 = 1 then 2 else 1) := by
      split
      · cases v <;> simp [Value.category]
      · rename_i hc
        rw [ga_c1 ha.1.1 hc]
        exact Nat.le_refl _
    omega
theorem ament_ok {m : AM} {q : Nat × Nat × Int × Int} (hm : gmem W h m) (ha : ament m q = true) : ∀ k, k < W.2.2.2.1 → W.1 k = q.1 → ∃ x : Int32, rd h k q.2.1 = some (.int x) ∧ q.2.2.1 ≤ x.toInt ∧ x.toInt ≤ q.2.2.2 := fun k hk hr => by
  unfold ament at ha
  split at ha
  · rename_i lo hi hq
    obtain ⟨x, hx, x1, x2⟩ := hm _ (amem_in hq) k hk hr
    simp only [Bool.and_eq_true, decide_eq_true_eq] at ha
    exact ⟨x, hx, Int.le_trans ha.1 x1, Int.le_trans x2 ha.2⟩
  · cases ha
theorem ament_all {m m2 : AM} (hm : gmem W h m) (ha : m2.all (ament m) = true) : gmem W h m2 := fun q hq => ament_ok hm (List.all_eq_true.mp ha q hq)
theorem awin_ok {ws cs : AWr} (hf : AFr W cs h h1) (ha : awin ws cs = true) : AFr W ws h h1 := hf.mono fun w hw => azin_ok (List.all_eq_true.mp ha w hw)
/-- what is told of the arguments is so -/
theorem atold_ok {As : List AV} {as : List Value} (hs : gst W E L h As as) : ∀ {cs : List (Nat × Int × Int)} {A : List (Option AV)} {m : AM}, (∀ q ∈ cs, ∃ x : Int32, as[q.1]? = some (.int x) ∧ q.2.1 ≤ x.toInt ∧ x.toInt ≤ q.2.2) → gls W E L h A → gmem W h m → ∃ u, atold As cs (A, m) = some u ∧ gls W E L h u.1 ∧ gmem W h u.2
  | [], A, m, _, hA, hm => ⟨_, rfl, hA, hm⟩
  | (j, lo, hi) :: t, A, m, hc, hA, hm => by
    have ht : ∀ q ∈ t, ∃ x : Int32, as[q.1]? = some (.int x) ∧ q.2.1 ≤ x.toInt ∧ x.toInt ≤ q.2.2 := fun q hq => hc q (List.mem_cons_of_mem _ hq)
    unfold atold
    split
    · rename_i a ha
      split
      · rename_i h0
        obtain ⟨x, hx, x1, x2⟩ := hc _ List.mem_cons_self
        dsimp only at hx x1 x2
        obtain ⟨v, hv, hg⟩ := gst_at hs ha
        rw [hx] at hv
        cases hv
        have hi2 := gv_gi h0 hg
        rw [if_pos (by have := hi2.1; have := hi2.2; omega)]
        have k := atell_ok (lo := max lo a.2.1) (hi := min hi a.2.2.1) hg.2 (by have := hi2.1; omega) (by have := hi2.2; omega) hA hm
        exact atold_ok hs ht k.1 k.2
      · exact atold_ok hs ht hA hm
    · exact atold_ok hs ht hA hm
theorem aalt_in {As : List AV} {q : Nat} {A : List (Option AV)} {R : List AV} {m : AM} {cs : AWr} {o : AAlt} {u : List (Option AV) × AM} (hu : atold As o.2.2 (A, m) = some u) : ∀ {l : List AAlt}, o ∈ l → (q, u.1.map (Option.map (aunW cs)), (match o.1 with
      | some a => aslot2 a :: R.map (aunW cs)
      | none => R.map (aunW cs)), o.2.1 ++ aforW cs u.2) ∈ aalt As q A R m cs l
  | [], h => by cases h
  | p :: t, h => by
    unfold aalt
    rcases List.mem_cons.mp h with rfl | h
    · rw [hu]
      exact List.mem_cons_self
    · have ih := aalt_in (q := q) (R := R) (cs := cs) hu h
      split
      · exact List.mem_cons_of_mem _ ih
      · exact ih
theorem aslot2_ok {a : AV} {v : Value} (hv : ga W a v) (hm : 1000 ≤ a.2.2.2.2.2 → ∀ k, k < W.2.2.2.1 → W.1 k = a.2.2.2.2.2 / 1000 - 1 → rd h k (a.2.2.2.2.2 % 1000) = some v) : gv W E L h (aslot2 a) v := by
  unfold aslot2
  split
  · rename_i h0
    obtain ⟨x, rfl, b1, b2⟩ := ga_int h0 hv
    refine ⟨ga_of rfl ⟨b1, b2⟩, fun _ hs => absurd (show 0 < 0 from hs) (by decide), ?_, ?_⟩
    · dsimp only
      split
      · intro _ h2
        omega
      · intro h2
        exact absurd h2 (by decide)
    · dsimp only
      split
      · rename_i h1
        intro _
        exact hm h1
      · intro h2
        exact absurd h2 (by decide)
  · rename_i h0
    refine gv_plain ?_ (fun e => absurd e h0) rfl
    obtain ⟨t, lo, hi, sy, of, sr⟩ := a
    unfold ga at hv ⊢
    dsimp only at hv h0 ⊢
    match t with
    | 0 => exact absurd rfl h0
    | 1 => exact hv
    | 2 => exact hv
    | 3 => exact hv
    | 4 => exact hv
    | t + 5 => exact hv
theorem acall_ok {ws : AWr} {d : Nat} {ct : ACt} {r : XRow} {q : Nat} {A : List (Option AV)} {S : List AV} {m : AM} {st : List Value} {l : List AS} (hk : AWk W) (hct : AHp W P ct) (hp : PInv W P h []) (hg : gss W E A S m L st h) (ha : acall W ws d ct r q A S m = some l) :
    ∃ (M1 : XMeth) (as rest : List Value) (v : Option Value) (h1 : XH), xM r.2.2.2.1 = some M1 ∧ xinv r.2.1 (xmK M1) = true ∧ st = as.reverse ++ rest ∧ as.length = xmN M1 + (if xmK M1 = 0 then 0 else 1) ∧ xrecv M1 as h ∧ (rest.map fun v => v.category).sum ≤ 8 ∧ XCall xM d r.2.2.2.1 as h v h1 ∧ aout W E h1 l (q, L, v.toList ++ rest) ∧ AFr W ws h h1 ∧ PInv W P h1 [] := by
  unfold acall at ha
  split at ha
  · rename_i hc
    obtain ⟨c1, c6, c2, c3, c4, c5, c7, c8⟩ := hc
    cases ha
    obtain ⟨⟨M1, m1, m2, m3, m4⟩, hh⟩ := hct
    obtain ⟨hA, hS, hm, hI⟩ := hg
    have hts := gst_take ct.1.2.1.length hS
    have hrv := gst_rev hts.1
    have hlen := gst_len hS
    have hlr := gst_len hrv
    have hal := alls_gal hrv c3
    obtain ⟨v, h1, k1, k2, k3, k4, o, ho, o1, o2, o3⟩ := hh _ h hI hp hal (ament_all hm c6)
    have hlg : (st.take ct.1.2.1.length).reverse.length = ct.1.2.1.length := by
      have : ∀ {B : List AV} {a : List Value}, gal W B a → a.length = B.length := fun {B} => by
        induction B with
        | nil => intro a g; cases a with
          | nil => rfl
          | cons _ _ => exact g.elim
        | cons x B ih => intro a g; cases a with
          | nil => exact g.elim
          | cons y a => simp [ih g.2]
      exact this hal
    refine ⟨M1, (st.take ct.1.2.1.length).reverse, st.drop ct.1.2.1.length, v, h1, by rw [c1]; exact m1, by rw [m2]; exact c2, by rw [List.reverse_reverse, List.take_append_drop], hlg.trans m3.symm, ?_, Nat.le_trans (acat_ok hts.2) c5, by rw [c1]; exact XCall.up c8 k1, ?_, awin_ok k4 c7, k3⟩
    · intro hk0
      rw [m2] at hk0
      unfold arcv at c4
      rw [if_neg hk0] at c4
      split at c4
      · rename_i a T hT
        simp only [Bool.and_eq_true, beq_iff_eq, decide_eq_true_eq] at c4
        obtain ⟨d1, d2, d3, d4⟩ := c4
        rw [hT] at hrv
        generalize (st.take ct.1.2.1.length).reverse = as at hrv
        cases as with
        | nil => exact hrv.elim
        | cons w as =>
          obtain ⟨j, rfl, j1, j2⟩ := ga_2 d1 hrv.1.1
          have s1 := (hI.2.2 j j2).1
          rw [j1] at s1
          obtain ⟨⟨oc, of⟩, ho, o1, o2⟩ := shp_o d3 s1
          have hI1 := hI.1
          have o1 : oc = _ := o1
          refine ⟨j, of, rfl, by rw [ho, o1, d4, m4], ?_, by omega⟩
          rcases Nat.lt_or_ge j 13 with g | g
          · have := hk.1.2.1 j g
            omega
          · omega
      · cases c4
    · obtain ⟨u, hu, u1, u2⟩ := atold_ok hrv o3 hA hm
      refine ⟨_, aalt_in (q := q) (R := S.drop ct.1.2.1.length) (cs := ct.1.2.2.2.1) hu ho, rfl, u1.fr k4, ?_, ?_, k2⟩
      · obtain ⟨o1, o1m⟩ := o1
        unfold aans at o1
        dsimp only
        split at o1
        · rename_i a he
          obtain ⟨x, rfl, hx⟩ := o1
          rw [he] at o1m ⊢
          exact ⟨aslot2_ok hx o1m, gst.fr k4 hts.2⟩
        · rename_i he
          subst o1
          rw [he]
          exact gst.fr k4 hts.2
      · exact fun z hz => (List.mem_append.mp hz).elim (o2 z) ((u2.fr k4) z)
  · cases ha
theorem acal_ok {ws : AWr} {d : Nat} {r : XRow} {pc : Nat} {A : List (Option AV)} {S : List AV} {m : AM} {st : List Value} {l : List AS} (hk : AWk W) (hp : PInv W P h []) (hg : gss W E A S m L st h) : ∀ {cs : List (Nat × ACt)}, (∀ c ∈ cs, AHp W P c.2) → acal W ws d r pc A S m cs = some l →
    ∃ (M1 : XMeth) (as rest : List Value) (v : Option Value) (h1 : XH), xM r.2.2.2.1 = some M1 ∧ xinv r.2.1 (xmK M1) = true ∧ st = as.reverse ++ rest ∧ as.length = xmN M1 + (if xmK M1 = 0 then 0 else 1) ∧ xrecv M1 as h ∧ (rest.map fun v => v.category).sum ≤ 8 ∧ XCall xM d r.2.2.2.1 as h v h1 ∧ aout W E h1 l (pc + 3, L, v.toList ++ rest) ∧ AFr W ws h h1 ∧ PInv W P h1 []
  | [], _, ha => by cases ha
  | c :: t, hc, ha => by
    unfold acal at ha
    split at ha
    · split at ha
      · rename_i l2 he
        cases ha
        exact acall_ok hk (hc c List.mem_cons_self) hp hg he
      · exact acal_ok hk hp hg (fun z hz => hc z (List.mem_cons_of_mem _ hz)) ha
    · exact acal_ok hk hp hg (fun z hz => hc z (List.mem_cons_of_mem _ hz)) ha
end AC
